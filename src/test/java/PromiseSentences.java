/** Promises 1 to 15 and 31 in their own words; 16 to 30 stand with Terms 4. */
final class PromiseSentences {
    private static final int LEAST = Integer.MIN_VALUE;
    private static final int MOST = Integer.MAX_VALUE;

    @Sentence(of = "Promise 1", says = "No men.")
    static void newObject(Due t) {
        OldestDown x = new OldestDown();
        int[] look = {0, 0, 1, 1, 0, 3, 0, 0, 0, 0, 0, 0, 0, 0, 0};
        for (int i = 0; i < look.length; i++) t.due("look(" + i + ")", x.look(i), look[i]);
        int[] country = {0, 0, 0, 2, 0};
        for (int c = 0; c < 2; c++) {
            for (int i = 0; i < country.length; i++) t.due("country(" + c + ", " + i + ")", x.country(c, i), country[i]);
        }
        for (int f = 0; f < 8; f++) {
            t.due("weight(" + f + ")", x.weight(f), 1);
            t.due("hears(" + f + ")", x.hears(f), 0);
        }
        for (int m = 0; m < 12; m++) t.due("of(" + m + ", 0)", x.of(m, 0), -2);
        t.due("left()", x.left(), 0);
        t.due("fault(0)", x.fault(0), 0);
        t.due("fault(1)", x.fault(1), -1);
        t.due("the TAPE", x.end(1), false);
    }

    @Sentence(of = "Promise 1", says = "No men.")
    static void objectsAreApart(Due t) {
        OldestDown x = Due.many(3);
        x.days(1);
        x.state(9);
        Due.feed(x, "abc");
        OldestDown y = new OldestDown();
        t.due("MEN", y.look(0), 0);
        t.due("DAY", y.look(1), 0);
        t.due("STATE", y.look(8), 0);
        t.due("the TAPE", y.end(1), false);
        y.man(1, 1, 1);
        t.due("MEN of the other", x.look(0), 3);
    }

    @Sentence(of = "Terms 4", says = "The constants: `NONE = -1`: None.")
    static void none(Due t) {
        t.due("NONE", OldestDown.NONE, -1);
    }

    @Sentence(of = "Promise 2", says = "STATE is told: what it was.")
    static void state(Due t) {
        OldestDown x = new OldestDown();
        t.due("at first", x.state(5), 0);
        t.due("then", x.state(LEAST), 5);
        t.due("then", x.state(MOST), LEAST);
        t.due("then", x.state(-1), MOST);
        t.due("now", x.look(8), -1);
    }

    // ---- man

    @Sentence(of = "Promise 3", says = "A MAN: the number;")
    static void man(Due t) {
        OldestDown x = new OldestDown();
        t.due("first", x.man(0, 0, 1), 0);
        t.due("second", x.man(1, 120, 9), 1);
        int[] dues = {1, 120, 9, 50, 0, 0, 0, -1, 0};
        for (int i = 0; i < dues.length; i++) t.due("of(1, " + i + ")", x.of(1, i), dues[i]);
        t.due("MEN", x.look(0), 2);
    }

    @Sentence(of = "Promise 3", says = "A MAN: the number;")
    static void manWhoComesLater(Due t) {
        OldestDown x = Due.war(0, 70, 4, 1, 70, 4);
        x.teach(0, 1);
        x.days(2);
        t.due("third", x.man(0, 90, 2), 2);
        t.where(x, 2, 0, -1, 50);
        t.due("he KNOWS", x.of(2, 4), 0);
        x.days(1);
        t.where(x, 2, 1, 2, 50);
    }

    @Sentence(of = "Promise 3", says = "NONE if one can't be,")
    static void manWhoCanNotBe(Due t) {
        OldestDown x = new OldestDown();
        int[][] wrong = {{-1, 60, 3}, {2, 60, 3}, {LEAST, 60, 3}, {MOST, 60, 3}, {0, -1, 3}, {0, 121, 3}, {0, LEAST, 3},
            {0, MOST, 3}, {0, 60, 0}, {0, 60, 10}, {0, 60, LEAST}, {0, 60, MOST}};
        for (int[] w : wrong) t.due("man(" + w[0] + ", " + w[1] + ", " + w[2] + ")", x.man(w[0], w[1], w[2]), -1);
        t.due("MEN", x.look(0), 0);
    }

    @Sentence(of = "Promise 3", says = "or there are twelve.")
    static void thirteenthMan(Due t) {
        OldestDown x = Due.many(11);
        t.due("the 12th", x.man(1, 60, 3), 11);
        t.due("the 13th", x.man(1, 60, 3), -1);
        t.due("the 13th again", x.man(0, 1, 1), -1);
        t.due("MEN", x.look(0), 12);
        t.due("of(12, 0)", x.of(12, 0), -2);
    }

    // ---- set

    @Sentence(of = "Promise 4", says = "What 0 KEEP, 1 RAIN, 2 TEA (who not asked),")
    static void setForAll(Due t) {
        int[] most = {99, 9, 99};
        for (int what = 0; what < 3; what++) {
            OldestDown x = new OldestDown();
            for (int who : new int[] {0, -1, 99, LEAST, MOST}) {
                t.due("the least", x.set(what, who, 0), true);
                t.due("is", x.look(3 + what), 0);
                t.due("the most", x.set(what, who, most[what]), true);
                t.due("is", x.look(3 + what), most[what]);
            }
        }
    }

    @Sentence(of = "Promise 4", says = "3 WANT of COUNTRY who,")
    static void setWant(Due t) {
        OldestDown x = new OldestDown();
        t.due("of 0", x.set(3, 0, 9), true);
        t.due("of 1", x.set(3, 1, 0), true);
        t.due("WANT of 0", x.country(0, 3), 9);
        t.due("WANT of 1", x.country(1, 3), 0);
        for (int who : new int[] {-1, 2, LEAST, MOST}) t.due("of " + who, x.set(3, who, 1), false);
    }

    @Sentence(of = "Promise 4", says = "4 HILL 0, 1 of CELL who,")
    static void setHill(Due t) {
        OldestDown x = new OldestDown();
        t.due("15", x.set(4, 15, 1), true);
        t.due("0", x.set(4, 0, 1), true);
        t.due("0 again", x.set(4, 0, 1), true);
        t.due("HILLS", x.look(6), 0x8001);
        t.due("15 no more", x.set(4, 15, 0), true);
        t.due("7, which is none", x.set(4, 7, 0), true);
        t.due("HILLS", x.look(6), 1);
        for (int v : new int[] {-1, 2, LEAST, MOST}) t.due("HILL " + v, x.set(4, 3, v), false);
        for (int who : new int[] {-1, 16, LEAST, MOST}) t.due("of " + who, x.set(4, who, 1), false);
        t.due("HILLS", x.look(6), 1);
    }

    @Sentence(of = "Promise 4", says = "5 BREATH, 6 COIN of MAN who: true;")
    static void setOfMan(Due t) {
        OldestDown x = Due.many(2);
        t.due("BREATH", x.set(5, 1, 98), true);
        t.due("COIN", x.set(6, 1, 998), true);
        t.due("BREATH of 1", x.of(1, 3), 98);
        t.due("COIN of 1", x.of(1, 5), 998);
        t.due("BREATH of 0", x.of(0, 3), 50);
        t.due("COIN of 0", x.of(0, 5), 0);
        for (int what = 5; what <= 6; what++) {
            for (int who : new int[] {-1, 2, 12, LEAST, MOST}) t.due("of " + who, x.set(what, who, 1), false);
        }
    }

    @Sentence(of = "Promise 4", says = "false if one can't be, or another what.")
    static void setWrongly(Due t) {
        OldestDown x = Due.many(1);
        x.teach(0, 0);
        String was = Due.all(x);
        int[][] wrong = {{0, 0, -1}, {0, 0, 100}, {1, 0, -1}, {1, 0, 10}, {2, 0, -1}, {2, 0, 100},
            {3, 0, -1}, {3, 0, 10}, {3, -1, 1}, {3, 2, 1}, {4, 0, -1}, {4, 0, 2}, {4, -1, 1}, {4, 16, 1},
            {5, 0, -1}, {5, 0, 100}, {5, -1, 1}, {5, 1, 1}, {6, 0, -1}, {6, 0, 1000}, {6, -1, 1}, {6, 1, 1},
            {-1, 0, 1}, {7, 0, 1}, {LEAST, 0, 0}, {MOST, 0, 0}, {0, 0, LEAST}, {0, 0, MOST}};
        for (int[] w : wrong) t.due("set(" + w[0] + ", " + w[1] + ", " + w[2] + ")", x.set(w[0], w[1], w[2]), false);
        t.same("refused", Due.all(x), was);
        t.due("what can be undone", x.look(14), 1);
    }

    // ---- teach, send

    @Sentence(of = "Promise 5", says = "To TEACH: true;")
    static void teach(Due t) {
        OldestDown x = Due.many(2);
        t.due("teach", x.teach(1, 3), true);
        t.due("he KNOWS", x.of(1, 4), 8);
        t.due("what can be undone", x.look(14), 1);
        t.due("no line of THE BOOK", x.look(7), 0);
    }

    @Sentence(of = "Promise 5", says = "false if it can't be (he KNOWS it).")
    static void teachWrongly(Due t) {
        OldestDown x = Due.many(2);
        x.teach(1, 3);
        String was = Due.all(x);
        t.due("he KNOWS it", x.teach(1, 3), false);
        for (int f : new int[] {-1, 8, LEAST, MOST}) t.due("FACT " + f, x.teach(1, f), false);
        for (int m : new int[] {-1, 2, 12, LEAST, MOST}) t.due("MAN " + m, x.teach(m, 1), false);
        t.same("refused", Due.all(x), was);
        t.due("what can be undone", x.look(14), 1);
        t.due("without MEN", new OldestDown().teach(0, 0), false);
    }

    @Sentence(of = "Promise 6", says = "To SEND for one: true;")
    static void send(Due t) {
        OldestDown x = BookSentences.withFront();
        t.due("send", x.send(2, 0, 20), true);
        int[] went = {0, 41, 3, 50, 0, 20, 1, 2};
        int[] came = {0, 40, 2, 50, 0, 10, 0, -1};
        for (int i = 0; i < went.length; i++) {
            t.due("who went, of " + i, x.of(2, i), went[i]);
            t.due("who came, of " + i, x.of(0, i), came[i]);
        }
        t.due("what can be undone", x.look(14), 1);
    }

    @Sentence(of = "Promise 6", says = "false if it can't be.")
    static void sendWrongly(Due t) {
        OldestDown x = BookSentences.withFront();
        String was = Due.all(x);
        for (int m : new int[] {-1, 5, 12, LEAST, MOST}) {
            t.due("who: " + m, x.send(m, 0, 0), false);
            t.due("for whom: " + m, x.send(2, m, 0), false);
        }
        int[][] wrong = {{1, 0, 0}, {4, 0, 0}, {2, 3, 0}, {2, 1, 0}, {0, 0, 0}, {3, 0, 0}, {2, 0, 31}, {2, 0, -1}, {0, 2, 0}};
        for (int[] w : wrong) t.due("send(" + w[0] + ", " + w[1] + ", " + w[2] + ")", x.send(w[0], w[1], w[2]), false);
        t.same("refused", Due.all(x), was);
        t.due("what can be undone", x.look(14), 0);
    }

    // ---- days

    @Sentence(of = "Promise 7", says = "DAYS go by (1 .. 60):")
    static void days(Due t) {
        OldestDown x = Due.war();
        t.due("1", x.days(1), 1);
        t.due("DAY", x.look(1), 1);
        t.due("60", x.days(60), 60);
        t.due("DAY", x.look(1), 61);
    }

    @Sentence(of = "Promise 7", says = "in how many of them there was WAR at first.")
    static void daysOfWar(Due t) {
        OldestDown x = Due.war(0, 70, 4);
        t.due("four of sixty", x.days(60), 4);
        t.due("WAR", x.look(2), 0);
        t.due("none of five", x.days(5), 0);
        OldestDown y = Due.war(0, 70, 4);
        t.due("all of three", y.days(3), 3);
        t.due("the last, in which it ends", y.days(1), 1);
        t.due("none", y.days(1), 0);
    }

    @Sentence(of = "Promise 7", says = "NONE, and nothing is done, if one can't be, or DAY would be above 9999.")
    static void daysThatCanNotBe(Due t) {
        OldestDown x = Due.many(2);
        String was = Due.all(x);
        for (int n : new int[] {0, -1, 61, LEAST, MOST}) t.due("days(" + n + ")", x.days(n), -1);
        t.same("nothing is done", Due.all(x), was);
        t.due("what can be undone", x.look(14), 0);
    }

    @Sentence(of = "Promise 7", says = "or DAY would be above 9999.")
    static void daysBeyondTheLast(Due t) {
        OldestDown x = Due.war();
        for (int i = 0; i < 166; i++) x.days(60);
        t.due("DAY", x.look(1), 9960);
        t.due("one too many", x.days(40), -1);
        t.due("nothing is done", x.look(1), 9960);
        t.due("just as many", x.days(39), 39);
        t.due("DAY", x.look(1), 9999);
        t.due("one too many", x.days(1), -1);
        t.due("the last DAY undone", x.undo(), true);
        t.due("just as many", x.days(1), 1);
    }

    // ---- feed, end, text, fault

    @Sentence(of = "Promise 8", says = "Twenty bytes come behind the TAPE, of each number the highest first: how many it has.")
    static void feed(Due t) {
        OldestDown x = new OldestDown();
        // "fact 7 weighs 23 ; \n"
        t.due("20", x.feed(0x66616374, 0x20372077, 0x65696768, 0x73203233, 0x203b200a), 20);
        t.due("40", x.feed(0x66616374, 0x20362077, 0x65696768, 0x73203138, 0x203b200a), 40);
        t.due("lines", x.text(2), 2);
        t.due("of the first", x.weight(7), 23);
        t.due("of the second", x.weight(6), 18);
        x.feed(0x20202020, -1, 0, 0, 0);
        t.due("bytes of 255", x.text(2), -1);
        t.due("the place of the first", x.fault(1), 4);
        Due.feed(x, "fact 7 weighs 23");
        Due.feed(x, "4;");
        t.due("behind what it has", x.text(2), -1);
        t.due("234 is too much", x.fault(0), 2);
    }

    @Sentence(of = "Promise 8", says = "NONE, and nothing comes, if there would be more than 400.")
    static void feedTheFullTape(Due t) {
        int b = 0x20202020;
        OldestDown x = new OldestDown();
        for (int i = 1; i <= 20; i++) t.due("feed", x.feed(b, b, b, b, b), 20 * i);
        t.due("420", x.feed(0, 0, 0, 0, 0), -1);
        t.due("it has no more", x.end(401), false);
        t.due("it has 381", x.end(381), true);
        t.due("401", x.feed(0, 0, 0, 0, 0), -1);
        t.due("it has no more", x.end(382), false);
        t.due("it has 380", x.end(380), true);
        t.due("400", x.feed(b, b, b, b, b), 400);
        t.due("blanks alone", x.text(2), 0);
    }

    @Sentence(of = "Promise 9", says = "The TAPE has its first n bytes alone: true;")
    static void end(Due t) {
        OldestDown x = new OldestDown();
        t.due("none of none", x.end(0), true);
        Due.feed(x, "fact 1 weighs 2; fact 1 weighs 3;");
        t.due("16", x.end(16), true);
        t.due("16 of 16", x.end(16), true);
        Due.feed(x, "fact 2 weighs 5;");
        t.due("lines", x.text(2), 2);
        t.due("of the first line", x.weight(1), 2);
        t.due("of the one behind it", x.weight(2), 5);
        Due.feed(x, "?");
        t.due("none", x.end(0), true);
        t.due("an empty text", x.text(2), 0);
    }

    @Sentence(of = "Promise 9", says = "false, changing nothing, if it has not so many, or n is below 0.")
    static void endWrongly(Due t) {
        OldestDown x = new OldestDown();
        for (int n : new int[] {1, -1, LEAST, MOST}) t.due("end(" + n + ") of none", x.end(n), false);
        Due.feed(x, "fact 1 weighs 2;");
        for (int n : new int[] {17, 20, 400, 401, -1, LEAST, MOST}) t.due("end(" + n + ") of 16", x.end(n), false);
        t.due("16 stay", x.feed(0x20202020, 0x20202020, 0x20202020, 0x20202020, 0x20202020), 36);
        t.due("lines", x.text(2), 1);
        t.due("as it was fed", x.weight(1), 2);
    }

    @Sentence(of = "Promise 10", says = "The TAPE, empty then, is TEXT k: how many lines.")
    static void text(Due t) {
        OldestDown x = Due.many(2);
        String[] lines = {"nap 7;", "0 tells 1;", "fact 0 weighs 9;", "on 0 rest 1;"};
        for (int k = 0; k < 4; k++) {
            t.due("lines of TEXT " + k, Due.tell(x, k, Due.times(3, lines[k])), 3);
            t.due("the TAPE is empty", x.end(1), false);
        }
        t.due("THE LAW", x.of(0, 12), 7);
        t.due("TELLING", x.of(0, 8), 2);
        t.due("WEIGHTS", x.weight(0), 9);
        t.due("ORDERS", x.country(1, 4), 1);
        for (int k = 0; k < 4; k++) {
            t.due("lines of the empty TEXT " + k, x.text(k), 0);
            t.due("look(" + (9 + k) + ")", x.look(9 + k), 0);
        }
        t.due("THE LAW", x.of(0, 12), 0);
        t.due("TELLING", x.of(0, 8), 0);
        t.due("WEIGHTS", x.weight(0), 1);
        t.due("ORDERS", x.country(1, 4), 0);
    }

    @Sentence(of = "Promise 10", says = "The TAPE, empty then, is TEXT k: how many lines.")
    static void textLeavesTheOthers(Due t) {
        String[] lines = {"nap 7;", "0 tells 1;", "fact 0 weighs 9;", "on 0 rest 1;"};
        for (int k = 0; k < 4; k++) {
            OldestDown x = Due.many(2);
            for (int j = 0; j < 4; j++) Due.tell(x, j, lines[j]);
            t.due("lines of TEXT " + k, x.text(k), 0);
            for (int j = 0; j < 4; j++) t.due("lines of TEXT " + j + " behind " + k, x.look(9 + j), j == k ? 0 : 1);
            t.due("THE LAW behind " + k, x.of(0, 12), k == 0 ? 0 : 7);
            t.due("TELLING behind " + k, x.of(0, 8), k == 1 ? 0 : 2);
            t.due("WEIGHTS behind " + k, x.weight(0), k == 2 ? 1 : 9);
            t.due("ORDERS behind " + k, x.country(1, 4), k == 3 ? 0 : 1);
        }
    }

    @Sentence(of = "Promise 10", says = "NONE: no such one (fault() tells 0),")
    static void noSuchText(Due t) {
        OldestDown x = new OldestDown();
        for (int k : new int[] {-1, 4, LEAST, MOST}) {
            Due.tell(x, 0, "?");
            t.due("a FAULT", x.fault(0), 1);
            t.due("text(" + k + ")", Due.tell(x, k, "?"), -1);
            t.due("fault(0)", x.fault(0), 0);
            t.due("fault(1)", x.fault(1), -1);
            t.due("the TAPE is empty", x.end(1), false);
        }
    }

    @Sentence(of = "Promise 10", says = "or a FAULT (the TEXT stays as it was; the TAPE is empty in each case).")
    static void textWithAFault(Due t) {
        OldestDown x = Due.many(2);
        String[] good = {"nap 7; nap 8;", "0 tells 1; 0 tells 1;", "fact 0 weighs 9; fact 1 weighs 8;", "on 0 rest 1; on 0 rest 0;"};
        String[] bad = {"nap 1; fade 3; nap", "1 tells 0; 1", "fact 0 weighs 1; fact 9", "on 0 go 1; on 0 go 0; go"};
        for (int k = 0; k < 4; k++) Due.tell(x, k, good[k]);
        for (int k = 0; k < 4; k++) {
            t.due("text(" + k + ")", Due.tell(x, k, bad[k]), -1);
            t.due("its lines stay", x.look(9 + k), 2);
            t.due("the TAPE is empty", x.end(1), false);
        }
        t.due("nap", x.of(0, 12), 7);
        t.due("fade", x.of(0, 13), 50);
        t.due("those whom 0 tells", x.of(0, 8), 2);
        t.due("those whom 1 tells", x.of(1, 8), 0);
        t.due("weight", x.weight(0), 9);
        t.due("weight", x.weight(1), 8);
        t.due("rest of 0", x.country(0, 4), 1);
        t.due("rest of 1", x.country(1, 4), 1);
    }

    @Sentence(of = "Promise 11", says = "Of the latest text(): what 0 the FAULT (0 without one), 1 its place (NONE).")
    static void fault(Due t) {
        OldestDown x = new OldestDown();
        t.due("fault(0) without a text", x.fault(0), 0);
        t.due("fault(1) without a text", x.fault(1), -1);
        Due.tell(x, 0, "nap 1/0;");
        t.due("fault(0)", x.fault(0), 2);
        t.due("fault(1)", x.fault(1), 6);
        t.due("fault(0) again", x.fault(0), 2);
        Due.tell(x, 2, "fact 1 weighs 2;");
        t.due("fault(0) without one", x.fault(0), 0);
        t.due("fault(1) without one", x.fault(1), -1);
        Due.tell(x, 3, "");
        t.due("fault(0) of an empty one", x.fault(0), 0);
        Due.tell(x, 1, "?");
        t.due("fault(0)", x.fault(0), 1);
        t.due("fault(1)", x.fault(1), 0);
    }

    @Sentence(of = "Promise 11", says = "NONE for another what.")
    static void faultWhatElse(Due t) {
        OldestDown x = new OldestDown();
        Due.tell(x, 0, "nap 1/0;");
        for (int what : new int[] {-1, 2, LEAST, MOST}) t.due("fault(" + what + ")", x.fault(what), -1);
    }

    // ---- of, weight, country, book

    @Sentence(of = "Promise 12", says = "Of a MAN what 0 COUNTRY, 1 AGE, 2 LEGS, 3 BREATH, 4 KNOWS, 5 COIN, 6 WHERE (0 HOME, 1 IN THE FIELD, 2 CAPTIVE), 7 his CELL (NONE: not IN THE FIELD), 8 those whom he tells (a set),")
    static void of(Due t) {
        OldestDown x = Due.war(0, 70, 9, 1, 71, 8, 1, 20, 7);
        x.set(5, 0, 40);
        x.set(6, 2, 77);
        Due.tell(x, 1, "1 tells 0 and 2; 2 tells 1;");
        Due.tell(x, 0, "fade 0;");
        x.teach(1, 2);
        x.teach(1, 5);
        x.days(1);
        int[][] dues = {{0, 70, 9, 40, 0, 0, 2, -1, 0}, {1, 71, 8, 40, 36, 0, 1, 9, 5}, {1, 20, 7, 50, 0, 77, 0, -1, 2}};
        for (int m = 0; m < 3; m++) {
            for (int what = 0; what < 9; what++) t.due("of(" + m + ", " + what + ")", x.of(m, what), dues[m][what]);
        }
    }

    @Sentence(of = "Promise 12", says = "10 + w what THE LAW tells (0 call, 1 step, 2 nap, 3 fade).")
    static void ofTheLaw(Due t) {
        OldestDown x = Due.men(0, 70, 9);
        int[] unsaid = {11, 9, 0, 50};
        for (int w = 0; w < 4; w++) t.due("of(0, " + (10 + w) + ")", x.of(0, 10 + w), unsaid[w]);
        Due.tell(x, 0, "nap 3; fade 4; call 1; step 2;");
        for (int w = 0; w < 4; w++) t.due("of(0, " + (10 + w) + ")", x.of(0, 10 + w), w + 1);
    }

    @Sentence(of = "Promise 12", says = "NONE - 1 if there is none such, or another what.")
    static void ofNone(Due t) {
        OldestDown x = Due.many(1);
        for (int what : new int[] {-1, 9, 14, LEAST, MOST}) t.due("of(0, " + what + ")", x.of(0, what), -2);
        for (int m : new int[] {-1, 1, 12, LEAST, MOST}) {
            for (int what : new int[] {0, 7, 8, 10, 13, 14}) t.due("of(" + m + ", " + what + ")", x.of(m, what), -2);
        }
    }

    @Sentence(of = "Promise 13", says = "What a FACT weighs;")
    static void weight(Due t) {
        OldestDown x = new OldestDown();
        Due.tell(x, 2, "fact 0 weighs 99; fact 7 weighs 0; fact 3 weighs 5;");
        int[] dues = {99, 1, 1, 5, 1, 1, 1, 0};
        for (int f = 0; f < 8; f++) t.due("weight(" + f + ")", x.weight(f), dues[f]);
    }

    @Sentence(of = "Promise 13", says = "NONE if there is none such.")
    static void weightOfNone(Due t) {
        OldestDown x = new OldestDown();
        for (int f : new int[] {-1, 8, LEAST, MOST}) t.due("weight(" + f + ")", x.weight(f), -1);
    }

    @Sentence(of = "Promise 14", says = "Of a COUNTRY what 0 how many are IN THE FIELD, 1 the FACTS that some know (a set), 2 their weight, 3 WANT, 4 1 if it is told to rest this DAY, else 0.")
    static void country(Due t) {
        OldestDown x = Due.war(0, 80, 3, 1, 80, 3, 0, 70, 3);
        x.teach(0, 1);
        x.teach(2, 1);
        x.teach(2, 4);
        x.teach(1, 0);
        x.set(3, 1, 1);
        Due.tell(x, 0, "fade 0;");
        Due.tell(x, 2, "fact 1 weighs 10;");
        Due.tell(x, 3, "on 2 rest 1; on 1 rest 0;");
        x.days(2);
        int[][] dues = {{2, 18, 11, 2, 0}, {1, 1, 1, 1, 1}};
        for (int c = 0; c < 2; c++) {
            for (int what = 0; what < 5; what++) t.due("country(" + c + ", " + what + ")", x.country(c, what), dues[c][what]);
        }
    }

    @Sentence(of = "Promise 14", says = "1 the FACTS that some know (a set), 2 their weight,")
    static void countryThatKnowsAll(Due t) {
        OldestDown x = Due.many(2);
        for (int f = 0; f < 8; f++) x.teach(1, f);
        Due.tell(x, 2, "fact 0 weighs 99; fact 1 weighs 99; fact 2 weighs 99; fact 3 weighs 99;"
            + "fact 4 weighs 99; fact 5 weighs 99; fact 6 weighs 99; fact 7 weighs 99;");
        t.due("FACTS", x.country(1, 1), 255);
        t.due("their weight", x.country(1, 2), 792);
        t.due("none", x.country(0, 1), 0);
        t.due("their weight", x.country(0, 2), 0);
    }

    @Sentence(of = "Promise 14", says = "NONE if there is none such, or another what.")
    static void countryOfNone(Due t) {
        OldestDown x = Due.many(2);
        for (int c : new int[] {-1, 2, LEAST, MOST}) {
            for (int what = 0; what < 5; what++) t.due("country(" + c + ", " + what + ")", x.country(c, what), -1);
        }
        for (int what : new int[] {-1, 5, LEAST, MOST}) t.due("country(0, " + what + ")", x.country(0, what), -1);
    }

    @Sentence(of = "Promise 15", says = "Of line i of THE BOOK what 0 DAY, 1 what, 2 the MAN, 3 number.")
    static void book(Due t) {
        OldestDown x = Due.war(0, 20, 4, 1, 70, 8);
        x.teach(0, 6);
        Due.tell(x, 0, "fade 1000 when day = 1; fade 0;");
        x.days(2);
        t.line(x, 0, 0, 0, 1, 15);
        t.line(x, 1, 1, 3, 0, 6);
        t.line(x, 2, 1, 4, -1, 0);
        t.due("lines", x.look(7), 3);
    }

    @Sentence(of = "Promise 15", says = "NONE - 1 if there is none such, or another what.")
    static void bookOfNone(Due t) {
        OldestDown x = Due.war(0, 70, 4);
        t.due("an empty one", x.book(0, 0), -2);
        x.days(1);
        for (int i : new int[] {-1, 1, 149, 150, LEAST, MOST}) {
            for (int what = 0; what < 4; what++) t.due("book(" + i + ", " + what + ")", x.book(i, what), -2);
        }
        for (int what : new int[] {-1, 4, LEAST, MOST}) t.due("book(0, " + what + ")", x.book(0, what), -2);
    }

    // ---- look

    @Sentence(of = "Promise 31", says = "What 0 MEN, 1 DAY, 2 WAR, 3 KEEP, 4 RAIN, 5 TEA, 6 HILLS (a set), 7 lines of THE BOOK, 8 STATE, 9 lines of THE LAW, 10 of TELLING, 11 of WEIGHTS, 12 of ORDERS, 13 SLIPPERS, 14 what can be undone.")
    static void look(Due t) {
        OldestDown x = Due.men(0, 80, 4, 1, 80, 4, 0, 90, 2);
        x.teach(0, 1);
        x.teach(1, 3);
        x.state(2020);
        x.set(1, 0, 6);
        x.set(2, 0, 17);
        x.set(4, 9, 1);
        Due.tell(x, 0, "nap 0; fade 0;");
        Due.tell(x, 1, "0 tells 2; 1 tells 0; 2 tells 0;");
        Due.tell(x, 2, Due.times(4, "fact 1 weighs 2;"));
        Due.tell(x, 3, "on 77 go 0;");
        x.slipper(1, 1, 1);
        x.slipper(1, 1, 1);
        x.days(1);
        int s = 2020;
        for (int i = 0; i < 2; i++) s = s * 1664525 + 1013904223;
        int[] dues = {3, 1, 1, 1, 6, 17, 512, 2, s, 2, 3, 4, 1, 2, 1};
        for (int i = 0; i < dues.length; i++) t.due("look(" + i + ")", x.look(i), dues[i]);
    }

    @Sentence(of = "Promise 31", says = "NONE for another what.")
    static void lookWhatElse(Due t) {
        OldestDown x = Due.many(2);
        for (int what : new int[] {-1, 15, LEAST, MOST}) t.due("look(" + what + ")", x.look(what), -1);
    }

    @Sentence(of = "Promise 31", says = "(STATE as it is.)")
    static void lookAtState(Due t) {
        OldestDown x = new OldestDown();
        for (int s : new int[] {LEAST, -2, -1, 0, MOST}) {
            x.state(s);
            t.due("look(8)", x.look(8), s);
            t.due("and again: no DRAW", x.look(8), s);
        }
    }
}
