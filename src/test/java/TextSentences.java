/** Terms 2: the TEXTS, their TOKENS, and the FAULTS that they may have. */
final class TextSentences {
    @Sentence(of = "Terms 2", says = "TEXTS (empty at first).")
    static void emptyAtFirst(Due t) {
        OldestDown x = Due.many(2);
        for (int k = 0; k < 4; k++) t.due("lines of TEXT " + k, x.look(9 + k), 0);
        t.due("THE LAW", x.of(0, 12), 0);
        t.due("TELLING", x.of(0, 8), 0);
        t.due("WEIGHTS", x.weight(0), 1);
        t.due("ORDERS", x.country(0, 4), 0);
    }

    // ---- THE LAW

    @Sentence(of = "Terms 2", says = "0 THE LAW = {(call | step | nap | fade) E [when B] ;}.")
    static void linesOfTheLaw(Due t) {
        t.faultless(0, "", 0);
        t.faultless(0, "call 1;", 1);
        t.faultless(0, "step 1;nap 1;fade 1;", 3);
        t.faultless(0, "nap 1 when 1 = 1;", 1);
        t.faultless(0, "nap 1 when 1 = 1; nap 1;", 2);
    }

    @Sentence(of = "Terms 2", says = "0 THE LAW = {(call | step | nap | fade) E [when B] ;}.")
    static void linesThatAreNone(Due t) {
        t.faulty(0, ";", 1, 0);
        t.faulty(0, "1;", 1, 0);
        t.faulty(0, "walk 1;", 1, 0);
        t.faulty(0, "when 1 = 1;", 1, 0);
        t.faulty(0, "nap ;", 1, 4);
        t.faulty(0, "nap when 1 = 1;", 1, 4);
        t.faulty(0, "nap 1", 1, 5);
        t.faulty(0, "nap 1 nap 2;", 1, 6);
        t.faulty(0, "nap 1 2;", 1, 6);
        t.faulty(0, "nap 1;;", 1, 6);
        t.faulty(0, "nap 1 when ;", 1, 11);
        t.faulty(0, "nap 1 when 1;", 1, 12);
        t.faulty(0, "nap 1 when 1 = 1", 1, 16);
        t.faulty(0, "nap 1 when 1 = 1 when 1 = 1;", 1, 17);
        t.faulty(0, "nap 1 = 1;", 1, 6);
    }

    /** Whether MAN 0, of whom the nap is 7 if B is so, else 3, is told so. */
    private static void when(Due t, String b, boolean so) {
        OldestDown x = Due.men(0, 77, 6);
        t.due("lines when " + b, Due.tell(x, 0, "nap 7 when " + b + "; nap 3;"), 2);
        t.due("when " + b, x.of(0, 12), so ? 7 : 3);
    }

    @Sentence(of = "Terms 2", says = "B = A {or A}.")
    static void or(Due t) {
        when(t, "1 = 1 or 1 = 2", true);
        when(t, "1 = 2 or 1 = 1", true);
        when(t, "1 = 1 or 1 = 1", true);
        when(t, "1 = 2 or 1 = 2", false);
        when(t, "1 = 2 or 1 = 2 or 1 = 1", true);
        when(t, "1 = 2 or 1 = 2 or 1 = 2", false);
        t.faulty(0, "nap 1 when 1 = 1 or;", 1, 19);
        t.faulty(0, "nap 1 when or 1 = 1;", 1, 11);
        t.faulty(0, "nap 1 when 1 or 2;", 1, 13);
    }

    @Sentence(of = "Terms 2", says = "A = C {and C}.")
    static void and(Due t) {
        when(t, "1 = 1 and 1 = 1", true);
        when(t, "1 = 1 and 1 = 2", false);
        when(t, "1 = 2 and 1 = 1", false);
        when(t, "1 = 2 and 1 = 2", false);
        when(t, "1 = 1 and 1 = 1 and 1 = 1", true);
        when(t, "1 = 1 and 1 = 1 and 1 = 2", false);
        when(t, "1 = 1 or 1 = 1 and 1 = 2", true);
        when(t, "1 = 2 and 1 = 1 or 1 = 1", true);
        when(t, "(1 = 1 or 1 = 1) and 1 = 2", false);
        when(t, "1 = 2 and (1 = 1 or 1 = 1)", false);
        t.faulty(0, "nap 1 when 1 = 1 and;", 1, 20);
        t.faulty(0, "nap 1 when and 1 = 1;", 1, 11);
    }

    @Sentence(of = "Terms 2", says = "C = E (< | = | >) E | not C | ( B ).")
    static void comparisons(Due t) {
        when(t, "1 < 2", true);
        when(t, "2 < 2", false);
        when(t, "3 < 2", false);
        when(t, "1 = 2", false);
        when(t, "2 = 2", true);
        when(t, "3 = 2", false);
        when(t, "1 > 2", false);
        when(t, "2 > 2", false);
        when(t, "3 > 2", true);
        when(t, "0 - 1 < 0", true);
        when(t, "2 * 3 + 1 = 1 + 3 * 2", true);
        when(t, "4096*4096*128 < 0", true);
        when(t, "4096*4096*128 - 1 > 0", true);
        // The least of all and the most of all are further apart than an int can be.
        when(t, "4096*4096*128 < 1", true);
        when(t, "4096*4096*128 > 1", false);
        when(t, "4096*4096*128 - 1 > 0 - 1", true);
        when(t, "4096*4096*128 - 1 < 0 - 1", false);
        when(t, "4096*4096*128 = 4096*4096*128 - 1 - 4096*4096*256", false);
        t.faulty(0, "nap 1 when 1 = 1 = 1;", 1, 17);
        t.faulty(0, "nap 1 when 1 < = 1;", 1, 15);
        t.faulty(0, "nap 1 when = 1;", 1, 11);
    }

    @Sentence(of = "Terms 2", says = "C = E (< | = | >) E | not C | ( B ).")
    static void not(Due t) {
        when(t, "not 1 = 2", true);
        when(t, "not 1 = 1", false);
        when(t, "not not 1 = 1", true);
        when(t, "not not 1 = 2", false);
        when(t, "not (1 = 2 and 1 = 1)", true);
        when(t, "not (1 = 1 or 1 = 2)", false);
        when(t, "not 1 = 2 or 1 = 1", true);
        when(t, "not 1 = 1 or 1 = 1", true);
        when(t, "not 1 = 1 and 1 = 2", false);
        when(t, "1 = 1 and not 1 = 1", false);
        t.faulty(0, "nap 1 when not;", 1, 14);
        t.faulty(0, "nap 1 when not and 1 = 1;", 1, 15);
        t.faulty(0, "nap not 1;", 1, 4);
    }

    @Sentence(of = "Terms 2", says = "C = E (< | = | >) E | not C | ( B ).")
    static void brackets(Due t) {
        when(t, "(1 = 1)", true);
        when(t, "(1 = 2)", false);
        when(t, "((1 = 1)) and (1 = 1 or 1 = 2)", true);
        t.faulty(0, "nap 1 when (1 = 1;", 1, 17);
        t.faulty(0, "nap 1 when (1 = 1", 1, 17);
        t.faulty(0, "nap 1 when 1 = 1);", 1, 16);
        t.faulty(0, "nap 1 when ();", 1, 12);
        t.faulty(0, "nap 1 when (1) = 1;", 1, 13);
        t.faulty(0, "nap (1);", 1, 4);
        t.faulty(0, "nap 1 when 1 = (1);", 1, 15);
    }

    /** What THE LAW tells of MAN 0 (AGE 77, LEGS 6) for fade. */
    private static void fade(Due t, String e, int due) {
        OldestDown x = Due.men(0, 77, 6);
        t.due("lines of fade " + e, Due.tell(x, 0, "fade " + e + ";"), 1);
        t.due("fade " + e, x.of(0, 13), due);
    }

    @Sentence(of = "Terms 2", says = "E = T {(+ | -) T}.")
    static void sums(Due t) {
        fade(t, "2 + 3", 5);
        fade(t, "10 - 3 - 4", 3);
        fade(t, "10 - 3 + 4", 11);
        fade(t, "3 - 10 + 8", 1);
        fade(t, "2 + 3 * 4", 14);
        fade(t, "20 - 6 / 2", 17);
        fade(t, "500-age*legs+legs*age/6", 115);
        t.faulty(0, "nap -1;", 1, 4);
        t.faulty(0, "nap + 1;", 1, 4);
        t.faulty(0, "nap 1 + ;", 1, 8);
        t.faulty(0, "nap 1 - ;", 1, 8);
        t.faulty(0, "nap 1 + - 1;", 1, 8);
    }

    @Sentence(of = "Terms 2", says = "T = U {* U | / NUMBER}.")
    static void products(Due t) {
        fade(t, "2 * 3 + 4", 10);
        fade(t, "2 * 3 * 4", 24);
        fade(t, "100 / 7 * 7", 98);
        fade(t, "100 * 7 / 7 / 3", 33);
        fade(t, "age / 1 / 2", 38);
        fade(t, "6 / 7", 0);
        t.faulty(0, "nap 8 / age;", 1, 8);
        t.faulty(0, "nap 8 / ;", 1, 8);
        t.faulty(0, "nap 8 * ;", 1, 8);
        t.faulty(0, "nap 8 * / 2;", 1, 8);
        t.faulty(0, "nap * 8;", 1, 4);
        t.faulty(0, "nap / 8;", 1, 4);
    }

    @Sentence(of = "Terms 2", says = "U = NUMBER | country | age | legs | breath | facts | cell | day | rain | hill.")
    static void units(Due t) {
        fade(t, "0", 0);
        fade(t, "9", 9);
        fade(t, "age", 77);
        fade(t, "legs * age", 462);
        fade(t, "country + age + legs + breath + facts + cell + day + rain + hill", 133);
        for (String word : new String[] {"call", "when", "and", "or", "not", "weight", "coin", "tells", "fact"}) {
            t.faulty(0, "nap " + word + ";", 1, 4);
        }
    }

    // ---- TELLING

    @Sentence(of = "Terms 2", says = "1 TELLING = {MAN tells MAN {and MAN} ;}")
    static void linesOfTelling(Due t) {
        OldestDown x = Due.many(12);
        t.due("lines", Due.tell(x, 1, "0 tells 1; 2tells 0 and 3and 11;\n0 tells 5 and 5; 11 tells 10;"), 4);
        t.due("those whom 0 tells", x.of(0, 8), 34);
        t.due("those whom 1 tells", x.of(1, 8), 0);
        t.due("those whom 2 tells", x.of(2, 8), 2057);
        t.due("those whom 11 tells", x.of(11, 8), 1024);
        t.due("lines", Due.tell(x, 1, "1 tells 0;"), 1);
        t.due("those whom 0 tells no more", x.of(0, 8), 0);
        t.due("those whom 1 tells now", x.of(1, 8), 1);
        t.due("lines", Due.tell(x, 1, ""), 0);
        t.due("those whom 1 tells no more", x.of(1, 8), 0);
    }

    @Sentence(of = "Terms 2", says = "1 TELLING = {MAN tells MAN {and MAN} ;}")
    static void linesOfTellingThatAreNone(Due t) {
        t.faulty(1, ";", 1, 0);
        t.faulty(1, "tells 0;", 1, 0);
        t.faulty(1, "0", 1, 1);
        t.faulty(1, "0 tells", 1, 7);
        t.faulty(1, "0 tells ;", 1, 8);
        t.faulty(1, "0 tells 1", 1, 9);
        t.faulty(1, "0 tells 1 2;", 1, 10);
        t.faulty(1, "0 tells 1 and;", 1, 13);
        t.faulty(1, "0 tells 1;;", 1, 10);
        t.faulty(1, "0 and 1;", 1, 2);
        t.faulty(1, "0 tells 1 tells 2;", 1, 10);
        t.faulty(1, "0 tells (1);", 1, 8);
        t.faulty(1, "0 tells 1, 2;", 1, 9);
    }

    @Sentence(of = "Terms 2", says = "(not himself; 16 lines.)")
    static void sixteenLinesOfTelling(Due t) {
        t.faultless(1, Due.times(16, "0 tells 1;"), 16);
        t.faulty(1, Due.times(17, "0 tells 1;"), 3, 160);
        t.faulty(1, "1 tells 1;", 2, 8);
        t.faulty(1, "1 tells 0 and 1;", 2, 14);
        t.faulty(1, "1 tells 0 and 1 and 2;", 2, 14);
    }

    // ---- WEIGHTS

    @Sentence(of = "Terms 2", says = "2 WEIGHTS = {fact FACT weighs N ;}")
    static void linesOfWeights(Due t) {
        OldestDown x = new OldestDown();
        t.due("lines", Due.tell(x, 2, "fact 0 weighs 9;fact 7 weighs 23;\n\nfact 3 weighs 5 ; "), 3);
        int[] dues = {9, 1, 1, 5, 1, 1, 1, 23};
        for (int f = 0; f < 8; f++) t.due("weight of " + f, x.weight(f), dues[f]);
        t.due("lines", Due.tell(x, 2, ""), 0);
        for (int f = 0; f < 8; f++) t.due("weight of " + f, x.weight(f), 1);
    }

    @Sentence(of = "Terms 2", says = "2 WEIGHTS = {fact FACT weighs N ;}")
    static void linesOfWeightsThatAreNone(Due t) {
        t.faulty(2, ";", 1, 0);
        t.faulty(2, "1 weighs 2;", 1, 0);
        t.faulty(2, "facts 1 weighs 2;", 1, 0);
        t.faulty(2, "fact", 1, 4);
        t.faulty(2, "fact weighs 1;", 1, 5);
        t.faulty(2, "fact 1 2;", 1, 7);
        t.faulty(2, "fact 1 weigh 1;", 1, 7);
        t.faulty(2, "fact 1 weighs;", 1, 13);
        t.faulty(2, "fact 1 weighs 1", 1, 15);
        t.faulty(2, "fact 1 weighs 2+1;", 1, 15);
        t.faulty(2, "fact 1 weighs -1;", 1, 14);
        t.faulty(2, "fact 1 weighs 1;;", 1, 16);
        t.faulty(2, "fact 1 weighs 1; nap 1;", 1, 17);
    }

    @Sentence(of = "Terms 2", says = "(N 0 .. 99;")
    static void leastAndMostWeight(Due t) {
        OldestDown x = new OldestDown();
        t.due("lines", Due.tell(x, 2, "fact 0 weighs 0; fact 7 weighs 99;"), 2);
        t.due("least", x.weight(0), 0);
        t.due("most", x.weight(7), 99);
        t.faulty(2, "fact 1 weighs 100;", 2, 14);
        t.faulty(2, "fact 1 weighs 9999;", 2, 14);
    }

    @Sentence(of = "Terms 2", says = "99; the last line of several;")
    static void lastLineOfWeights(Due t) {
        OldestDown x = new OldestDown();
        Due.tell(x, 2, "fact 4 weighs 9; fact 5 weighs 8; fact 4 weighs 7; fact 4 weighs 6;");
        t.due("told thrice", x.weight(4), 6);
        t.due("told once", x.weight(5), 8);
    }

    @Sentence(of = "Terms 2", says = "of others 1; 16 lines.)")
    static void sixteenLinesOfWeights(Due t) {
        OldestDown x = new OldestDown();
        t.due("lines", Due.tell(x, 2, Due.times(15, "fact 0 weighs 2;") + "fact 1 weighs 3;"), 16);
        t.due("told", x.weight(0), 2);
        t.due("told by the 16th", x.weight(1), 3);
        for (int f = 2; f < 8; f++) t.due("of others", x.weight(f), 1);
        t.faulty(2, Due.times(17, "fact 0 weighs 2;"), 3, 256);
    }

    // ---- ORDERS

    @Sentence(of = "Terms 2", says = "3 ORDERS = {on DAY (rest | go) COUNTRY ;}")
    static void linesOfOrders(Due t) {
        OldestDown x = new OldestDown();
        t.due("lines", Due.tell(x, 3, "on 0 rest 1;on 2 rest 0;\non 2 go 1; on 3 go 0;"), 4);
        int[][] dues = {{0, 1}, {0, 0}, {1, 0}, {0, 0}};
        for (int d = 0; d < 4; d++) {
            for (int c = 0; c < 2; c++) t.due("rest of " + c + " on DAY " + d, x.country(c, 4), dues[d][c]);
            x.days(1);
        }
        t.due("lines", Due.tell(x, 3, "on 4 rest 0;"), 1);
        t.due("told anew", x.country(0, 4), 1);
        t.due("lines", Due.tell(x, 3, ""), 0);
        t.due("not told", x.country(0, 4), 0);
    }

    @Sentence(of = "Terms 2", says = "3 ORDERS = {on DAY (rest | go) COUNTRY ;}")
    static void linesOfOrdersThatAreNone(Due t) {
        t.faulty(3, ";", 1, 0);
        t.faulty(3, "rest 1;", 1, 0);
        t.faulty(3, "0 rest 1;", 1, 0);
        t.faulty(3, "on rest 1;", 1, 3);
        t.faulty(3, "on 0 nap 1;", 1, 5);
        t.faulty(3, "on 0 1;", 1, 5);
        t.faulty(3, "on 0 rest;", 1, 9);
        t.faulty(3, "on 0 rest go 1;", 1, 10);
        t.faulty(3, "on 0 go 1", 1, 9);
        t.faulty(3, "on 0 go 1;;", 1, 10);
        t.faulty(3, "on 0 go 1; on", 1, 13);
        t.faulty(3, "on 0 go 0 and 1;", 1, 10);
    }

    @Sentence(of = "Terms 2", says = "(DAY 0 .. 999;")
    static void firstAndLastDayOfOrders(Due t) {
        OldestDown x = new OldestDown();
        t.due("lines", Due.tell(x, 3, "on 0 rest 0; on 999 rest 0;"), 2);
        t.due("DAY 0", x.country(0, 4), 1);
        for (int i = 0; i < 16; i++) x.days(60);
        x.days(38);
        t.due("DAY 998", x.country(0, 4), 0);
        x.days(1);
        t.due("DAY 999", x.country(0, 4), 1);
        x.days(1);
        t.due("DAY 1000", x.country(0, 4), 0);
        t.faulty(3, "on 1000 rest 0;", 2, 3);
        t.faulty(3, "on 9999 rest 0;", 2, 3);
    }

    @Sentence(of = "Terms 2", says = "the last line of several for that DAY and COUNTRY; 16 lines.)")
    static void lastLineOfOrders(Due t) {
        OldestDown x = new OldestDown();
        Due.tell(x, 3, "on 0 rest 0; on 0 go 1; on 0 go 0; on 0 rest 1; on 1 rest 0;");
        t.due("told to rest, then to go", x.country(0, 4), 0);
        t.due("told to go, then to rest", x.country(1, 4), 1);
        t.due("lines", Due.tell(x, 3, Due.times(15, "on 0 go 0;") + "on 0 rest 0;"), 16);
        t.due("the 16th", x.country(0, 4), 1);
        t.faulty(3, Due.times(17, "on 0 go 0;"), 3, 160);
    }

    // ---- TOKENS

    @Sentence(of = "Terms 2", says = "TOKENS: letters as many as stand together are KEYWORDS (those told here for that text) or none;")
    static void words(Due t) {
        t.faultless(0, "nap 1when 1=1and 2=2;nap 1when not 1=2;", 2);
        t.faultless(0, "nap9;nap8when(day=0);", 2);
        for (String word : new String[] {"napa", "napz", "anap", "zznap", "na", "n", "napnap", "notnap"}) {
            t.faulty(0, word + " 1;", 1, 0);
        }
        for (char none : new char[] {'_', '`', '{', '@', '[', 0, 128, 192, 233, 255}) t.faulty(0, "nap" + none + " 1;", 1, 3);
        t.faulty(0, "nap age age;", 1, 8);
        t.faulty(0, "nap ageage;", 1, 4);
        t.faulty(0, "nap 1 when 1 = 1 an;", 1, 17);
    }

    @Sentence(of = "Terms 2", says = "letters as many as stand together are KEYWORDS (those told here for that text) or none;")
    static void capitalsAreLettersOfNoKeyword(Due t) {
        for (String word : new String[] {"Nap", "NAP", "naP", "napA", "napZ", "Anap", "Znap"}) t.faulty(0, word + " 1;", 1, 0);
        t.faulty(1, "0 Tells 1;", 1, 2);
        t.faulty(2, "Fact 0 weighs 1;", 1, 0);
        t.faulty(3, "on 0 restA 1;", 1, 5);
    }

    @Sentence(of = "Terms 2", says = "are KEYWORDS (those told here for that text) or none;")
    static void keywordsOfAnotherText(Due t) {
        t.faulty(0, "on 1;", 1, 0);
        t.faulty(0, "nap weighs;", 1, 4);
        t.faulty(1, "0 when 1;", 1, 2);
        t.faulty(1, "0 tells 1 or 2;", 1, 10);
        t.faulty(2, "nap 1;", 1, 0);
        t.faulty(2, "fact 1 tells 1;", 1, 7);
        t.faulty(3, "fact 1 rest 1;", 1, 0);
        t.faulty(3, "on 1 step 1;", 1, 5);
    }

    @Sentence(of = "Terms 2", says = "digits as many as stand together NUMBERS of 1 to 4 digits or none;")
    static void numbers(Due t) {
        fade(t, "7", 7);
        fade(t, "0007", 7);
        fade(t, "0000", 0);
        fade(t, "10 + 12 + 123", 145);
        fade(t, "9999 - 9000", 999);
        t.faulty(0, "nap 12345;", 1, 4);
        t.faulty(0, "nap 00001;", 1, 4);
        t.faulty(0, "nap 99999999999;", 1, 4);
        t.faulty(0, "nap 1 2;", 1, 6);
        t.faulty(1, "0 tells 00001;", 1, 8);
        t.faulty(1, "00000 tells 1;", 1, 0);
        t.faulty(2, "fact 00001 weighs 1;", 1, 5);
        t.faulty(3, "on 00001 go 1;", 1, 3);
    }

    @Sentence(of = "Terms 2", says = "; + - * / ( ) < = > .")
    static void signs(Due t) {
        t.faultless(0, "nap 1+2-3*4/5 when(1<2)and 1=2 or 2>1;", 1);
        for (char sign : new char[] {'.', ',', ':', '!', '?', '[', '{', '_', '@', '`', '\'', '"', '#', '&', '|', '~', 127, 128, 233, 255, 0}) {
            t.faulty(0, "nap 1" + sign + ";", 1, 5);
        }
        t.faulty(0, "nap 1 when 1 <> 2;", 1, 14);
        t.faulty(0, "nap 1 when 1 == 1;", 1, 14);
    }

    @Sentence(of = "Terms 2", says = "; + - * / ( ) < = > .")
    static void bytesThatAreNoToken(Due t) {
        for (char b = 0; b < 256; b++) {
            boolean token = Character.isLetterOrDigit(b) && b < 128 || "; +-*/()<=>\n".indexOf(b) >= 0;
            if (token) continue;
            // Where a line, a word, a NUMBER or the end could stand.
            t.faulty(0, "" + b, 1, 0);
            t.faulty(0, "nap 1;" + b, 1, 6);
            t.faulty(0, "nap " + b + ";", 1, 4);
            t.faulty(1, b + " tells 1;", 1, 0);
            t.faulty(2, "fact 1 weighs " + b + ";", 1, 14);
            t.faulty(3, "on 1 " + b + " 1;", 1, 5);
        }
    }

    @Sentence(of = "Terms 2", says = "Blanks (32, 10) between.")
    static void blanks(Due t) {
        t.faultless(0, " \n ", 0);
        t.faultless(0, "\n nap \n\n 1  ; \n", 1);
        t.faultless(0, "nap\n1\n;nap 1;", 2);
        t.faultless(1, " 0\ntells\n1 ;\n", 1);
        for (char blank : new char[] {9, 11, 12, 13, 31, 33, 160}) t.faulty(0, "nap" + blank + "1;", 1, 3);
        t.faulty(0, "na p 1;", 1, 0);
    }

    @Sentence(of = "Terms 2", says = "Ints, which wrap;")
    static void intsWrap(Due t) {
        // 2 to the 36 is 0, 2 to the 31 is the least of all, one less the most of all.
        fade(t, "5 + 4096*4096*4096", 5);
        fade(t, "7 + 4096*4096*128", 0);
        fade(t, "4096*4096*128 - 1", 1000);
        fade(t, "4096*4096*128 - 1 - 4096*4096*127 - 4096*4095 - 3996", 99);
        fade(t, "4096*4096*128 + 4096*4096*128 + 3", 3);
        fade(t, "0 - 4096*4096*128 - 4096*4096*128 + 4", 4);
    }

    @Sentence(of = "Terms 2", says = "/ goes towards 0.")
    static void partsTowardsZero(Due t) {
        fade(t, "500 + 0 - 7 / 2", 497);
        // The least of all by 1000 is -2147483, by 9999 -214769 (downwards it would be one less).
        fade(t, "4096*4096*128/1000 + 9999*214 + 7697", 0);
        fade(t, "4096*4096*128/1000 + 9999*214 + 7698", 1);
        fade(t, "4096*4096*128/9999 + 9999*21 + 4795", 5);
        // -715827882, -71589, -7, -3
        fade(t, "4096*4096*128/3/9999/9999/2 + 5", 2);
    }

    // ---- FAULTS

    @Sentence(of = "Terms 2", says = "FAULTS, the first by its place,")
    static void firstFault(Due t) {
        t.faulty(0, "nap 1 / 0 ?", 2, 8);
        t.faulty(0, "nap 1 ? / 0", 1, 6);
        t.faulty(0, "nap 1 / 0; nap 1 / 0;", 2, 8);
        t.faulty(0, Due.times(16, "nap 1;") + "nap ?", 3, 96);
        t.faulty(0, Due.times(15, "nap 1;") + "nap 1/0; nap 1;", 2, 96);
        t.faulty(0, "nap 1 when (((((((( 1 / 0 = (", 2, 24);
        t.faulty(1, "0 tells 1; 4 tells", 2, 11);
        t.faulty(1, "0 tells 1 ? 0 tells 0;", 1, 10);
        t.faulty(2, "fact 8 weighs 100;", 2, 5);
        t.faulty(3, "on 1000 nap 2;", 2, 3);
    }

    @Sentence(of = "Terms 2", says = "at one place the least:")
    static void leastFaultAtOnePlace(Due t) {
        // The first MAN of the 17th line is one that there is not, or no NUMBER at all.
        t.faulty(1, Due.times(16, "0 tells 1;") + "4 tells 1;", 2, 160);
        t.faulty(1, Due.times(16, "0 tells 1;") + "9999 tells 1;", 2, 160);
        t.faulty(1, Due.times(16, "0 tells 1;") + "12345 tells 1;", 1, 160);
        t.faulty(1, Due.times(16, "0 tells 1;") + ";", 1, 160);
        t.faulty(0, "nap 1 / 00000", 1, 8);
        t.faulty(0, Due.times(16, "nap 1;") + "walk 1;", 1, 96);
        t.faulty(2, Due.times(16, "fact 0 weighs 1;") + "nap 1;", 1, 256);
        t.faulty(3, Due.times(16, "on 0 go 0;") + "go 1;", 1, 160);
    }

    @Sentence(of = "Terms 2", says = "1 what can't stand there (the end: the text's length).")
    static void faultAtTheEnd(Due t) {
        t.faulty(0, "nap", 1, 3);
        t.faulty(0, "nap ", 1, 4);
        t.faulty(0, "nap 1", 1, 5);
        t.faulty(0, "nap 1 \n \n", 1, 9);
        t.faulty(1, "0", 1, 1);
        t.faulty(2, "fact", 1, 4);
        t.faulty(3, "on 3 go 0; on  ", 1, 15);
        t.faulty(0, "nap 1\n\n?", 1, 7);
    }

    @Sentence(of = "Terms 2", says = "1 what can't stand there (the end: the text's length).")
    static void faultAtTheEndOfTheLongest(Due t) {
        String longest = "nap 9+" + Due.times(196, "0+") + "1;";
        t.due("length", longest.length(), 400);
        t.faulty(0, longest.replace(';', '+'), 1, 400);
        OldestDown x = Due.many(1);
        t.due("without a FAULT", Due.tell(x, 0, longest), 1);
        t.due("nap", x.of(0, 12), 10);
    }

    @Sentence(of = "Terms 2", says = "2 (at the NUMBER) a part by 0;")
    static void partByZero(Due t) {
        t.faulty(0, "nap 1/0;", 2, 6);
        t.faulty(0, "nap 1 / 0000;", 2, 8);
        t.faulty(0, "nap 1 / 2 / 0;", 2, 12);
        t.faulty(0, "nap 1 when 1 = 1 / 0;", 2, 19);
        t.faultless(0, "nap 0 * 0 + 0 / 1;", 1);
    }

    @Sentence(of = "Terms 2", says = "one beyond its bounds;")
    static void numberBeyondItsBounds(Due t) {
        t.faulty(2, "fact 8 weighs 1;", 2, 5);
        t.faultless(2, "fact 7 weighs 1;", 1);
        t.faulty(2, "fact 1 weighs 100;", 2, 14);
        t.faultless(2, "fact 1 weighs 99;", 1);
        t.faulty(3, "on 1000 rest 1;", 2, 3);
        t.faultless(3, "on 999 rest 1;", 1);
        t.faulty(3, "on 0 rest 2;", 2, 10);
        t.faulty(3, "on 0 go 9999;", 2, 8);
        t.faultless(3, "on 0 rest 1;", 1);
    }

    @Sentence(of = "Terms 2", says = "a MAN that there is not,")
    static void aManThatThereIsNot(Due t) {
        t.faulty(1, "4 tells 0;", 2, 0);
        t.faultless(1, "3 tells 0;", 1);
        t.faulty(1, "0 tells 4;", 2, 8);
        t.faultless(1, "0 tells 3;", 1);
        t.faulty(1, "0 tells 1 and 9999;", 2, 14);
        OldestDown x = new OldestDown();
        t.due("without MEN", Due.tell(x, 1, "0 tells 1;"), -1);
        t.due("its FAULT", x.fault(0), 2);
        t.due("its place", x.fault(1), 0);
        x.man(0, 60, 3);
        t.due("he alone", Due.tell(x, 1, "0 tells 1;"), -1);
        t.due("its place", x.fault(1), 8);
        x.man(0, 60, 3);
        t.due("with both", Due.tell(x, 1, "0 tells 1;"), 1);
    }

    @Sentence(of = "Terms 2", says = "who tells himself.")
    static void aManWhoTellsHimself(Due t) {
        t.faulty(1, "0 tells 0;", 2, 8);
        t.faulty(1, "3 tells 1 and 03;", 2, 14);
        t.faulty(1, "3 tells 0003", 2, 8);
        t.faultless(1, "3 tells 0; 0 tells 3;", 2);
    }

    @Sentence(of = "Terms 2", says = "3 (at its KEYWORD; of TELLING at the first MAN) the 17th line;")
    static void theSeventeenthLine(Due t) {
        String[] lines = {"nap 1;", "0 tells 1;", "fact 0 weighs 1;", "on 0 rest 0;"};
        String[] begins = {"fade", "3", "fact", "on"};
        for (int k = 0; k < 4; k++) {
            String sixteen = Due.times(16, lines[k]);
            t.faultless(k, sixteen + " \n", 16);
            t.faulty(k, sixteen + " " + lines[k], 3, sixteen.length() + 1);
            t.faulty(k, sixteen + begins[k], 3, sixteen.length());
            t.faulty(k, sixteen + lines[k] + lines[k], 3, sixteen.length());
            t.faulty(k, sixteen + "?", 1, sixteen.length());
            t.faulty(k, sixteen + ";", 1, sixteen.length());
        }
    }

    @Sentence(of = "Terms 2", says = "(at it) the 9th ( or not that is open.")
    static void theNinthThatIsOpen(Due t) {
        t.faulty(0, "nap 1 when (((((((((1=1)))))))));", 3, 19);
        t.faulty(0, "nap 1 when not not not not not not not not not", 3, 43);
        t.faulty(0, "nap 1 when not not not not not not not not (", 3, 43);
        t.faulty(0, "nap 1 when not(not(not(not(not 1=1))));", 3, 27);
        t.faulty(0, "nap 1 when not(not(not(not((1=1)))));", 3, 27);
        t.faulty(0, "nap 1 when ((((((((not", 3, 19);
        t.faulty(0, "nap 1 when ((((((((1=1 and (", 3, 27);
        t.faulty(0, "nap 1 when not not not not not not not not and", 1, 43);
        t.faulty(0, "nap 1 when ((((((((;", 1, 19);
    }

    @Sentence(of = "Terms 2", says = "(at it) the 9th ( or not that is open.")
    static void eightThatAreOpen(Due t) {
        when(t, "not not not not not not not not 1 = 1", true);
        when(t, "not not not not not not not not 1 = 2", false);
        when(t, "not ( not ( not ( not ( 1 = 1 ) ) ) )", true);
        when(t, "not(not(not(not(1=2))))", false);
        when(t, "((((((((1=1))))))))", true);
        when(t, "((((((((1=2))))))))and 1=1 or((((((((1=1))))))))", true);
        when(t, "(((((((1=1 and not 1=2 and not 1=2 and (1=1)))))))) and not not not not not not not not 1=1", true);
    }

    @Sentence(of = "Terms 2", says = "the 9th ( or not that is open.")
    static void eightThatAreOpenWithMuchPending(Due t) {
        String deep = "1+1*0=2+3*4";
        for (int i = 0; i < 8; i++) deep = "1=2 or 1=1 and(" + deep + ")";
        when(t, deep, false);
        when(t, deep.replace("1+1*0=", "13+1*1="), true);
        when(t, deep.replace("1+1*0=", "13+1*1=").replace("(1=2 or", "(1=1 and"), true);
    }
}
