/** Promises 8 to 13: the TAPE, the TEXTS on it with their FAULTS, and what they tell. */
final class TextTest {
    private static final Due t = new Due();

    public static void main(String[] args) {
        tape();
        bytes();
        noSuchText();
        emptyTexts();
        unsaidLaw();
        names();
        namesInTheField();
        numbers();
        conditions();
        deepConditions();
        firstLine();
        held();
        lawFaults();
        openFaults();
        numberFaults();
        telling();
        tellingFaults();
        weights();
        weightFaults();
        orders();
        orderFaults();
        tooManyLines();
        faultsAreForgotten();
        of();
        t.end();
    }

    private static void tape() {
        OldestDown x = new OldestDown();
        t.due("end of none", x.end(0), true);
        t.due("end beyond", x.end(1), false);
        t.due("end below", x.end(-1), false);
        for (int i = 1; i <= 20; i++) t.due("feed " + i, x.feed(0x20202020, 0x20202020, 0x20202020, 0x20202020, 0x20202020), 20 * i);
        t.due("feed beyond", x.feed(0, 0, 0, 0, 0), -1);
        t.due("end beyond", x.end(401), false);
        t.due("end", x.end(400), true);
        t.due("end", x.end(381), true);
        t.due("feed beyond by one", x.feed(0, 0, 0, 0, 0), -1);
        t.due("end", x.end(380), true);
        t.due("feed to the full", x.feed(0x20202020, 0x20202020, 0x20202020, 0x20202020, 0x20202020), 400);
        t.due("blanks are an empty text", x.text(2), 0);
        t.due("the tape is empty", x.end(1), false);
        t.due("feed", x.feed(0, 0, 0, 0, 0), 20);
    }

    private static void bytes() {
        OldestDown x = new OldestDown();
        // "fact 7 weighs 23 ; \n", of each number the highest byte first
        x.feed(0x66616374, 0x20372077, 0x65696768, 0x73203233, 0x203b200a);
        t.due("lines", x.text(2), 1);
        t.due("weight", x.weight(7), 23);
        x.feed(-1, 0, 0, 0, 0);
        t.due("byte 255", x.text(2), -1);
        t.due("its place", x.fault(1), 0);
        Due.feed(x, "fact 7 weighs 23");
        x.end(16);
        Due.feed(x, "4;");
        t.due("behind what it has", x.text(2), -1);
        t.due("the number runs on", x.fault(0), 2);
        t.due("its place", x.fault(1), 14);
    }

    private static void noSuchText() {
        OldestDown x = new OldestDown();
        Due.tell(x, 0, "?");
        t.due("fault", x.fault(0), 1);
        for (int k : new int[] {-1, 4, Integer.MIN_VALUE, Integer.MAX_VALUE}) {
            t.due("no such text " + k, Due.tell(x, k, "?"), -1);
            t.due("its fault", x.fault(0), 0);
            t.due("its place", x.fault(1), -1);
            t.due("the tape is empty", x.end(1), false);
        }
        t.due("no such part", x.fault(2), -1);
        t.due("no such part", x.fault(-1), -1);
    }

    private static void emptyTexts() {
        OldestDown x = new OldestDown();
        x.man(0, 60, 1);
        x.man(0, 60, 1);
        String[] texts = {"call 1;", "0 tells 1;", "fact 0 weighs 9;", "on 0 rest 1;"};
        for (int k = 0; k < 4; k++) {
            t.due("lines of " + k, Due.tell(x, k, texts[k] + texts[k]), 2);
            t.due("look at them", x.look(9 + k), 2);
            t.due("empty " + k, Due.tell(x, k, ""), 0);
            t.due("look at none", x.look(9 + k), 0);
        }
        t.due("call", x.of(0, 10), 1);
        t.due("tells", x.of(0, 8), 0);
        t.due("weight", x.weight(0), 1);
        t.due("rest", x.country(1, 4), 0);
    }

    private static void unsaidLaw() {
        OldestDown x = new OldestDown();
        int[] ages = {0, 58, 59, 60, 120};
        int[] calls = {0, 0, 0, 1, 61};
        for (int i = 0; i < ages.length; i++) {
            x.man(i % 2, ages[i], 3 + i);
            t.due("call", x.of(i, 10), calls[i]);
            t.due("step", x.of(i, 11), 3 + i);
            t.due("nap", x.of(i, 12), 0);
            t.due("fade", x.of(i, 13), 50);
        }
    }

    private static void fade(OldestDown x, String e, int due) {
        t.due("lines of fade " + e, Due.tell(x, 0, "fade " + e + ";"), 1);
        t.due("fade " + e, x.of(0, 13), due);
    }

    private static void names() {
        OldestDown x = new OldestDown();
        x.man(1, 77, 6);
        x.teach(0, 1);
        x.teach(0, 7);
        x.teach(0, 4);
        x.set(5, 0, 44);
        x.set(1, 0, 8);
        x.set(4, 0, 1);
        x.set(4, 15, 1);
        String[] names = {"country", "age", "legs", "breath", "facts", "cell", "day", "rain", "hill"};
        int[] due = {1, 77, 6, 44, 3, 0, 0, 8, 0};
        for (int i = 0; i < names.length; i++) fade(x, names[i], due[i]);
    }

    private static void namesInTheField() {
        OldestDown x = new OldestDown();
        x.man(1, 77, 6);
        x.set(0, 0, 0);
        x.set(4, 11, 1);
        Due.tell(x, 0, "step 5;");
        x.days(1);
        fade(x, "cell", 11);
        fade(x, "hill", 1);
        fade(x, "day", 1);
        x.set(4, 11, 0);
        fade(x, "hill", 0);
        Due.tell(x, 0, "step 2;");
        x.days(1);
        fade(x, "cell", 9);
        fade(x, "day", 2);
        OldestDown y = new OldestDown();
        y.man(0, 77, 6);
        y.set(0, 0, 0);
        y.set(4, 0, 1);
        Due.tell(y, 0, "step 0;");
        y.days(1);
        fade(y, "cell", 0);
        fade(y, "hill", 1);
    }

    private static void numbers() {
        OldestDown x = new OldestDown();
        x.man(0, 77, 6);
        fade(x, "0", 0);
        fade(x, "0007", 7);
        fade(x, "2+3*4", 14);
        fade(x, "2*3+4", 10);
        fade(x, "10-3-4", 3);
        fade(x, "10-3+4", 11);
        fade(x, "100/7*7", 98);
        fade(x, "100*7/7/3", 33);
        fade(x, "age/1/2", 38);
        fade(x, "500+0-7/2", 497);
        fade(x, "500-age*legs+legs*age/6", 115);
        fade(x, "9999", 1000);
        // Ints that wrap: 2 to the 36 is 0, 2 to the 31 the least of all.
        fade(x, "5 + 4096*4096*4096", 5);
        fade(x, "7 + 4096*4096*128", 0);
        fade(x, "4096*4096*128 - 1 - 4096*4096*127 - 4096*4095 - 3996", 99);
        // The least of all by 1000 is -2147483 towards 0, by 9999 -214769.
        fade(x, "4096*4096*128/1000 + 9999*214 + 7697", 0);
        fade(x, "4096*4096*128/1000 + 9999*214 + 7698", 1);
        fade(x, "4096*4096*128/9999 + 9999*21 + 4795", 5);
    }

    private static void when(OldestDown x, String b, boolean due) {
        t.due("lines when " + b, Due.tell(x, 0, "nap 7 when " + b + "; nap 3;"), 2);
        t.due("when " + b, x.of(0, 12), due ? 7 : 3);
    }

    private static void conditions() {
        OldestDown x = new OldestDown();
        x.man(0, 77, 6);
        String[] so = {"1 < 2", "2 = 2", "3 > 2", "age > 76 and age < 78", "not 1 = 2", "not not 1 = 1", "(1 = 1)",
            "1 = 1 or 1 = 1 and 1 = 2", "1 = 2 and 1 = 1 or 1 = 1", "1 = 2 or 1 = 1", "not (1 = 2 and 1 = 1)",
            "not 1 = 2 or 1 = 1", "not 1 = 2 and 1 = 1", "(1 = 2 or 1 = 1) and 1 = 1", "2 * 3 + 1 = 1 + 3 * 2",
            "0 - 1 < 0", "1 = 1 and 1 = 1 and 1 = 1", "1 = 2 or 1 = 2 or 1 = 1", "4096*4096*128 < 0"};
        for (String b : so) when(x, b, true);
        String[] notSo = {"2 < 2", "3 < 2", "1 = 2", "2 > 2", "2 > 3", "not 1 = 1", "not not 1 = 2", "1 = 1 and 1 = 2",
            "1 = 2 or 1 = 2", "(1 = 1 or 1 = 1) and 1 = 2", "1 = 2 and (1 = 1 or 1 = 1)", "not 1 = 1 and 1 = 2",
            "not (1 = 1 or 1 = 2)", "not 1 = 1 or 1 = 2", "1 = 1 and 1 = 1 and 1 = 2", "1 = 1 and not 1 = 1"};
        for (String b : notSo) when(x, b, false);
    }

    private static void deepConditions() {
        OldestDown x = new OldestDown();
        x.man(0, 77, 6);
        when(x, "not not not not not not not not 1 = 1", true);
        when(x, "not ( not ( not ( not ( 1 = 1 ) ) ) )", true);
        when(x, "not(not(not(not(1=2))))", false);
        when(x, "((((((((1=1))))))))", true);
        when(x, "((((((((1=2))))))))and 1=1 or((((((((1=1))))))))", true);
        String deep = "1+1*0=2+3*4";
        for (int i = 0; i < 8; i++) deep = "1=2 or 1=1 and(" + deep + ")";
        when(x, deep, false);
        when(x, deep.replace("1+1*0=", "13+1*1="), true);
        when(x, deep.replace("1+1*0=", "13+1*1=").replace("(1=2 or", "(1=1 and"), true);
    }

    private static void firstLine() {
        OldestDown x = new OldestDown();
        x.man(0, 77, 6);
        x.man(1, 70, 5);
        Due.tell(x, 0, "step 1 when country = 1; nap 9; step 2 when age > 80; call 5 when age = 70; step 3 when legs = 6; step 4;");
        t.due("step", x.of(0, 11), 3);
        t.due("step", x.of(1, 11), 1);
        t.due("none so: age less 59", x.of(0, 10), 18);
        t.due("call", x.of(1, 10), 5);
        t.due("nap", x.of(1, 12), 9);
        t.due("fade", x.of(1, 13), 50);
        Due.tell(x, 0, "step 8; step 1;");
        t.due("the first, not the last", x.of(0, 11), 8);
    }

    private static void held() {
        OldestDown x = new OldestDown();
        x.man(0, 77, 6);
        int[] most = {120, 9, 99, 1000};
        String[] words = {"call", "step", "nap", "fade"};
        for (int w = 0; w < 4; w++) {
            Due.tell(x, 0, words[w] + " " + most[w] + ";");
            t.due("most " + words[w], x.of(0, 10 + w), most[w]);
            Due.tell(x, 0, words[w] + " " + most[w] + "+1;");
            t.due("beyond " + words[w], x.of(0, 10 + w), most[w]);
            Due.tell(x, 0, words[w] + " 0-1;");
            t.due("below " + words[w], x.of(0, 10 + w), 0);
        }
    }

    private static void lawFaults() {
        OldestDown x = new OldestDown();
        x.man(0, 77, 6);
        Due.tell(x, 0, "nap 5;");
        String[] texts = {"call", "call ", "call 1", "call 1 when", "call ;", "walk 1;", "call 1;;", "1;", "call 1 when 1;",
            "call 1 when 1 = 1", "call 1 when (1 = 1;", "call 1 when 1 = 1);", "call (1);", "call -1;", "call 1 + ;",
            "call 1 when 1 = 1 = 1;", "call 1 when 1 < = 1;", "call 1 or 2;", "call age / age;", "call 2 * / 2;",
            "call tells;", "call 1 when not;", "call 1.;", "call 1 call 2;", "Call 1;", "callx 1;", "call 1 \t;",
            "call 1 when 1 = 1 and;", "call 1 when (1) = 1;", "call 12345;", "call 1\n\n?", "call 1 when 1 = 1 when 1 = 1;"};
        int[] places = {4, 5, 6, 11, 5, 0, 7, 0, 13, 17, 18, 17, 5, 5, 9, 18, 16, 7, 11, 9, 5, 15, 6, 7, 0, 0, 7, 21, 14, 5, 8, 18};
        for (int i = 0; i < texts.length; i++) t.faulty(x, 0, texts[i], 1, places[i]);
        t.due("the law stays", x.of(0, 12), 5);
        t.due("its lines stay", x.look(9), 1);
        t.due("blanks aren't asked for", Due.tell(x, 0, "nap 1when 1=1and 2=2;\nnap\n2;"), 2);
        t.due("the law changes", x.of(0, 12), 1);
        t.due("no fault", x.fault(0), 0);
        t.due("no place", x.fault(1), -1);
        for (String word : new String[] {"calla", "callz", "callA", "callZ", "acall", "zcall", "Acall", "Zcall", "cal", "CALL"}) {
            t.faulty(x, 0, word + " 1;", 1, 0);
        }
        String longest = "nap 9+" + times(196, "0+") + "1;";
        t.due("a text of 400", longest.length(), 400);
        t.faulty(x, 0, longest.replace(';', '+'), 1, 400);
        t.due("a text of 400", Due.tell(x, 0, longest), 1);
        t.due("nap", x.of(0, 12), 10);
        t.faulty(x, 0, "nap " + (char) 233 + ";", 1, 4);
        t.faulty(x, 0, "nap 1" + (char) 0 + ";", 1, 5);
    }

    private static void openFaults() {
        OldestDown x = new OldestDown();
        t.faulty(x, 0, "nap 1 when (((((((((1=1)))))))));", 3, 19);
        t.faulty(x, 0, "nap 1 when not(not(not(not(not 1=1))));", 3, 27);
        t.faulty(x, 0, "nap 1 when not(not(not(not((1=1)))));", 3, 27);
        t.faulty(x, 0, "nap 1 when not not not not not not not not not", 3, 43);
        t.faulty(x, 0, "nap 1 when not not not not not not not not (", 3, 43);
        t.faulty(x, 0, "nap 1 when not not not not not not not not and", 1, 43);
        t.faulty(x, 0, "nap 1 when ((((((((;", 1, 19);
        t.due("what is closed isn't open", Due.tell(x, 0,
            "nap 1 when (((((((1=1 and not 1=1 and not 1=1 and (1=1)))))))) and not not not not not not not not 1=1;"), 1);
    }

    private static void numberFaults() {
        OldestDown x = new OldestDown();
        t.faulty(x, 0, "call 1/0;", 2, 7);
        t.faulty(x, 0, "call 1 / 0000", 2, 9);
        t.faulty(x, 0, "call 1 / 00000", 1, 9);
        t.faulty(x, 0, "call 1 / 0 ?", 2, 9);
        t.faulty(x, 0, "call 1 ? / 0", 1, 7);
        t.faulty(x, 0, "nap 1 when 1 = 1 / 0;", 2, 19);
        t.due("0 elsewhere", Due.tell(x, 0, "call 0 * 0 + 0 / 1;"), 1);
    }

    private static OldestDown withMen(int men) {
        OldestDown x = new OldestDown();
        for (int m = 0; m < men; m++) x.man(m % 2, 60, 3);
        return x;
    }

    private static void telling() {
        OldestDown x = withMen(12);
        t.due("lines", Due.tell(x, 1, "0 tells 1; 2tells 0 and 3and 11;\n0 tells 5 and 5; 11 tells 10;"), 4);
        t.due("tells", x.of(0, 8), 34);
        t.due("tells", x.of(1, 8), 0);
        t.due("tells", x.of(2, 8), 2057);
        t.due("tells", x.of(11, 8), 1024);
        t.due("lines", x.look(10), 4);
        t.due("told anew", Due.tell(x, 1, "1 tells 0;"), 1);
        t.due("tells no more", x.of(0, 8), 0);
        t.due("tells", x.of(1, 8), 1);
    }

    private static void tellingFaults() {
        OldestDown x = withMen(3);
        Due.tell(x, 1, "0 tells 2;");
        String[] texts = {"0", "tells", "0 tells", "0 tells ;", "0 tells 1", "0 tells 1 2;", "0 tells 1 and;", "0 tells 1;;",
            "0 and 1;", "0 tells 1 tells 2;", "0 tells 00001;", "0 tell 1;", "0 tells (1);", "0 tells 1, 2;"};
        int[] places = {1, 0, 7, 8, 9, 10, 13, 10, 2, 10, 8, 2, 8, 9};
        for (int i = 0; i < texts.length; i++) t.faulty(x, 1, texts[i], 1, places[i]);
        t.faulty(x, 1, "3 tells 0;", 2, 0);
        t.faulty(x, 1, "0 tells 3;", 2, 8);
        t.faulty(x, 1, "0 tells 0;", 2, 8);
        t.faulty(x, 1, "0 tells 1 and 0;", 2, 14);
        t.faulty(x, 1, "0 tells 1 and 9999;", 2, 14);
        t.faulty(x, 1, "0 tells 1; 3 tells", 2, 11);
        t.due("the telling stays", x.of(0, 8), 4);
        t.faulty(withMen(0), 1, "0 tells 1;", 2, 0);
    }

    private static void weights() {
        OldestDown x = new OldestDown();
        t.due("lines", Due.tell(x, 2, "fact 0 weighs 99; fact 7 weighs 0; fact 3 weighs 5; fact 0 weighs 98;"), 4);
        int[] due = {98, 1, 1, 5, 1, 1, 1, 0};
        for (int f = 0; f < 8; f++) t.due("weight " + f, x.weight(f), due[f]);
        t.due("no such fact", x.weight(8), -1);
        t.due("no such fact", x.weight(-1), -1);
        t.due("told anew", Due.tell(x, 2, "fact 1 weighs 2;"), 1);
        t.due("weight", x.weight(0), 1);
        t.due("weight", x.weight(1), 2);
        t.due("lines", x.look(11), 1);
    }

    private static void weightFaults() {
        OldestDown x = new OldestDown();
        Due.tell(x, 2, "fact 1 weighs 2;");
        t.faulty(x, 2, "fact 8 weighs 1;", 2, 5);
        t.faulty(x, 2, "fact 1 weighs 100;", 2, 14);
        t.faulty(x, 2, "fact 1 weighs 1", 1, 15);
        t.faulty(x, 2, "fact weighs 1;", 1, 5);
        t.faulty(x, 2, "fact 1 weigh 1;", 1, 7);
        t.faulty(x, 2, "fact 1 2;", 1, 7);
        t.faulty(x, 2, "1 weighs 2;", 1, 0);
        t.faulty(x, 2, "fact 1 weighs 2+1;", 1, 15);
        t.faulty(x, 2, "call 1;", 1, 0);
        t.due("the weights stay", x.weight(1), 2);
    }

    private static void orders() {
        OldestDown x = new OldestDown();
        t.due("lines", Due.tell(x, 3, "on 0 rest 1; on 2 rest 0; on 2 go 0; on 3 go 0; on 3 rest 0; on 999 rest 1;"), 6);
        int[][] due = {{0, 1}, {0, 0}, {0, 0}, {1, 0}, {0, 0}};
        for (int d = 0; d < 5; d++) {
            t.due("day " + d, x.country(0, 4), due[d][0]);
            t.due("day " + d, x.country(1, 4), due[d][1]);
            x.days(1);
        }
        for (int i = 0; i < 16; i++) x.days(60);
        x.days(34);
        t.due("day", x.look(1), 999);
        t.due("the last day of orders", x.country(1, 4), 1);
    }

    private static void orderFaults() {
        OldestDown x = new OldestDown();
        Due.tell(x, 3, "on 0 rest 1;");
        t.faulty(x, 3, "on 1000 rest 1;", 2, 3);
        t.faulty(x, 3, "on 0 rest 2;", 2, 10);
        t.faulty(x, 3, "on 0 nap 1;", 1, 5);
        t.faulty(x, 3, "on 0 rest;", 1, 9);
        t.faulty(x, 3, "on rest 1;", 1, 3);
        t.faulty(x, 3, "on 0 rest go 1;", 1, 10);
        t.faulty(x, 3, "on 0 go 1", 1, 9);
        t.faulty(x, 3, "rest 1;", 1, 0);
        t.faulty(x, 3, "on 0 go 1; on", 1, 13);
        t.due("the orders stay", x.country(1, 4), 1);
    }

    private static String times(int n, String line) {
        StringBuilder s = new StringBuilder();
        for (int i = 0; i < n; i++) s.append(line);
        return s.toString();
    }

    private static void tooManyLines() {
        OldestDown x = withMen(2);
        String[] lines = {"nap 1;", "0 tells 1;", "fact 0 weighs 1;", "on 0 rest 0;"};
        for (int k = 0; k < 4; k++) {
            String sixteen = times(16, lines[k]);
            t.due("16 lines of " + k, Due.tell(x, k, sixteen), 16);
            t.faulty(x, k, sixteen + " " + lines[k], 3, sixteen.length() + 1);
            t.faulty(x, k, sixteen + lines[k].substring(0, k == 1 ? 1 : k == 3 ? 2 : 4), 3, sixteen.length());
            t.faulty(x, k, sixteen + "?", 1, sixteen.length());
            t.faulty(x, k, sixteen + ";", 1, sixteen.length());
        }
        t.faulty(x, 1, times(16, lines[1]) + "2 tells 1;", 2, 160);
        t.faulty(x, 0, times(16, lines[0]) + "nap", 3, 96);
        t.faulty(x, 0, times(15, lines[0]) + "nap 1/0; nap 1;", 2, 96);
    }

    private static void faultsAreForgotten() {
        OldestDown x = new OldestDown();
        t.faulty(x, 0, "nap 1/0;", 2, 6);
        t.due("a text without one", Due.tell(x, 2, "fact 1 weighs 2;"), 1);
        t.due("no fault", x.fault(0), 0);
        t.due("no place", x.fault(1), -1);
    }

    private static void of() {
        OldestDown x = new OldestDown();
        t.due("nobody", x.of(0, 0), -2);
        x.man(1, 77, 6);
        int[] due = {1, 77, 6, 50, 0, 0, 0, -1, 0, -2, 18, 6, 0, 50, -2};
        for (int i = 0; i < due.length; i++) t.due("of what " + i, x.of(0, i), due[i]);
        for (int what : new int[] {-1, 15, Integer.MIN_VALUE, Integer.MAX_VALUE}) t.due("another what", x.of(0, what), -2);
        for (int m : new int[] {-1, 1, 12, Integer.MIN_VALUE, Integer.MAX_VALUE}) t.due("nobody", x.of(m, 1), -2);
    }
}
