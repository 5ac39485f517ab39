/** Terms 4: HEARS, KNEES, MARCH, STANDS, SLIPPERS, LEFT, ASK, FORGETS, LAST and TREATY. */
final class RiddleSentences {
    private static final int LEAST = Integer.MIN_VALUE;
    private static final int MOST = Integer.MAX_VALUE;

    // ---- HEARS

    @Sentence(of = "Terms 4", says = "HEARS: who KNOWS a FACT at last, if TELLING goes on for ever at HOME,")
    static void hears(Due t) {
        OldestDown x = Due.many(7);
        Due.tell(x, 1, "2 tells 1; 1 tells 0 and 4; 5 tells 6; 4 tells 2; 6 tells 5;");
        t.due("nobody KNOWS it", x.hears(3), 0);
        x.teach(2, 3);
        t.due("all along", x.hears(3), 1 + 2 + 4 + 16);
        x.teach(6, 3);
        t.due("from two", x.hears(3), 1 + 2 + 4 + 16 + 32 + 64);
        t.due("another FACT", x.hears(2), 0);
        t.due("nothing stays", x.of(0, 4), 0);
    }

    @Sentence(of = "Terms 4", says = "HEARS: who KNOWS a FACT at last, if TELLING goes on for ever at HOME,")
    static void hearsWithoutTelling(Due t) {
        OldestDown x = Due.many(12);
        x.teach(0, 0);
        x.teach(11, 0);
        t.due("those who KNOW it", x.hears(0), 2049);
        t.due("without MEN", new OldestDown().hears(0), 0);
    }

    @Sentence(of = "Terms 4", says = "HEARS: who KNOWS a FACT at last, if TELLING goes on for ever at HOME,")
    static void hearsTwelveInARow(Due t) {
        OldestDown x = Due.many(12);
        Due.tell(x, 1, "11 tells 10; 10 tells 9; 9 tells 8; 8 tells 7; 7 tells 6; 6 tells 5; 5 tells 4; 4 tells 3;"
            + "3 tells 2; 2 tells 1; 1 tells 0;");
        x.teach(11, 7);
        t.due("upwards", x.hears(7), 4095);
        Due.tell(x, 1, "0 tells 1; 1 tells 2; 2 tells 3; 3 tells 4; 4 tells 5; 5 tells 6; 6 tells 7; 7 tells 8;"
            + "8 tells 9; 9 tells 10; 10 tells 11;");
        x.teach(0, 6);
        t.due("downwards", x.hears(6), 4095);
        t.due("from the last", x.hears(7), 2048);
    }

    @Sentence(of = "Terms 4", says = "all being there (a set).")
    static void hearsAsIfAtHome(Due t) {
        OldestDown x = Due.war(0, 80, 1, 0, 20, 1);
        x.teach(0, 1);
        Due.tell(x, 1, "0 tells 1;");
        Due.tell(x, 0, "fade 0; step 0;");
        x.days(8);
        t.due("IN THE FIELD", x.of(0, 6), 1);
        t.due("not told", x.of(1, 4), 0);
        t.due("as if at HOME", x.hears(1), 3);
    }

    @Sentence(of = "Promise 19", says = "HEARS, as a set;")
    static void promiseOfHears(Due t) {
        OldestDown x = Due.many(3);
        x.teach(1, 0);
        x.teach(2, 7);
        Due.tell(x, 1, "1 tells 2; 2 tells 0;");
        t.due("FACT 0", x.hears(0), 7);
        t.due("FACT 7", x.hears(7), 5);
    }

    @Sentence(of = "Promise 19", says = "NONE if there is no such FACT.")
    static void hearsOfNoFact(Due t) {
        OldestDown x = Due.many(3);
        for (int f : new int[] {-1, 8, LEAST, MOST}) t.due("hears(" + f + ")", x.hears(f), -1);
    }

    // ---- KNEES

    @Sentence(of = "Terms 4", says = "KNEES of a FACT and a MAN who does not KNOW it: the fewest tellings (one MAN to one MAN) that must not be, so that he does not come to KNOW it so.")
    static void knees(Due t) {
        OldestDown x = Due.many(6);
        x.teach(0, 0);
        Due.tell(x, 1, "0 tells 1 and 2 and 3; 1 tells 4; 2 tells 4; 3 tells 4; 4 tells 5;");
        t.due("one at the end", x.knees(0, 5), 1);
        t.due("three ways", x.knees(0, 4), 3);
        t.due("one to him", x.knees(0, 1), 1);
        Due.tell(x, 1, "0 tells 1 and 2 and 3; 1 tells 4; 2 tells 4; 3 tells 4 and 5; 4 tells 5;");
        t.due("two at the end", x.knees(0, 5), 2);
        OldestDown y = Due.many(6);
        y.teach(3, 1);
        Due.tell(y, 1, "3 tells 0; 0 tells 1 and 2 and 4; 1 tells 5; 2 tells 5; 4 tells 5;");
        t.due("one at the start", y.knees(1, 5), 1);
        Due.tell(y, 1, "3 tells 0 and 4; 0 tells 1 and 2; 1 tells 5; 2 tells 5; 4 tells 1;");
        t.due("two at the start", y.knees(1, 5), 2);
        t.due("to him who stands first", y.knees(1, 0), 1);
    }

    @Sentence(of = "Terms 4", says = "the fewest tellings (one MAN to one MAN) that must not be,")
    static void aTellingToldTwiceIsOne(Due t) {
        OldestDown x = Due.many(6);
        x.teach(0, 0);
        Due.tell(x, 1, "0 tells 1 and 2 and 5; 1 tells 4; 2 tells 4; 3 tells 4 and 5; 4 tells 5; 5 tells 0; 0 tells 5 and 5;");
        t.due("from 0 to 5, and from 4", x.knees(0, 5), 2);
        x.teach(3, 0);
        t.due("one more who KNOWS it", x.knees(0, 5), 3);
    }

    @Sentence(of = "Terms 4", says = "the fewest tellings (one MAN to one MAN) that must not be,")
    static void theShortestWayIsNotAllWays(Due t) {
        OldestDown x = Due.many(6);
        x.teach(0, 0);
        Due.tell(x, 1, "0 tells 1 and 2; 1 tells 3 and 4; 2 tells 3; 3 tells 5; 4 tells 5;");
        t.due("two ways", x.knees(0, 5), 2);
        OldestDown y = Due.many(8);
        y.teach(7, 6);
        Due.tell(y, 1, "7 tells 0 and 1; 0 tells 2 and 3; 1 tells 2; 2 tells 4 and 5; 3 tells 4; 4 tells 6; 5 tells 6;");
        t.due("two ways", y.knees(6, 6), 2);
        t.due("two ways", y.knees(6, 4), 2);
    }

    @Sentence(of = "Terms 4", says = "so that he does not come to KNOW it so.")
    static void noneMustNotBe(Due t) {
        OldestDown x = Due.many(3);
        t.due("nobody KNOWS it", x.knees(0, 2), 0);
        x.teach(0, 0);
        t.due("nobody tells", x.knees(0, 2), 0);
        Due.tell(x, 1, "2 tells 0; 0 tells 1;");
        t.due("nobody tells him", x.knees(0, 2), 0);
        t.due("another FACT", x.knees(1, 1), 0);
    }

    @Sentence(of = "Terms 4", says = "so that he does not come to KNOW it so.")
    static void elevenTellHim(Due t) {
        OldestDown x = Due.many(12);
        StringBuilder s = new StringBuilder();
        for (int m = 0; m < 11; m++) {
            x.teach(m, 2);
            s.append(m).append(" tells 11;");
        }
        Due.tell(x, 1, s.toString());
        t.due("eleven", x.knees(2, 11), 11);
    }

    @Sentence(of = "Promise 20", says = "KNEES; NONE if he KNOWS it,")
    static void kneesOfOneWhoKnows(Due t) {
        OldestDown x = Due.many(3);
        x.teach(0, 0);
        Due.tell(x, 1, "0 tells 1;");
        t.due("he KNOWS it", x.knees(0, 0), -1);
        t.due("he does not", x.knees(0, 1), 1);
        x.teach(1, 0);
        t.due("he KNOWS it now", x.knees(0, 1), -1);
    }

    @Sentence(of = "Promise 20", says = "or one can't be.")
    static void kneesOfNone(Due t) {
        OldestDown x = Due.many(3);
        x.teach(0, 0);
        for (int f : new int[] {-1, 8, LEAST, MOST}) t.due("FACT " + f, x.knees(f, 1), -1);
        for (int m : new int[] {-1, 3, 12, LEAST, MOST}) t.due("MAN " + m, x.knees(0, m), -1);
    }

    // ---- MARCH

    private static void marching(Due t, OldestDown x, int c, int n, int breath, int row) {
        t.due("march " + c + " in " + n, x.march(0, c, n, 0), breath);
        t.due("row of " + c + " in " + n, x.march(0, c, n, 1), row);
    }

    private static OldestDown marcher(int legs, int breath) {
        OldestDown x = Due.men(0, 60, legs, 1, 20, 9);
        x.set(5, 0, breath);
        return x;
    }

    @Sentence(of = "Terms 4", says = "MARCH of a MAN for c (0 .. 15) CELLS in n (1 .. 12) days:")
    static void marchOfSoManyCells(Due t) {
        marching(t, marcher(9, 50), 0, 1, 60, 0);
        marching(t, marcher(9, 99), 15, 2, 24, 3);
        marching(t, marcher(9, 99), 15, 1, -1, -1);
        marching(t, marcher(1, 99), 12, 12, 39, 4095);
        marching(t, marcher(1, 99), 13, 12, -1, -1);
        for (int c : new int[] {-1, 16, LEAST, MOST}) marching(t, marcher(9, 99), c, 3, -1, -1);
        for (int n : new int[] {-1, 0, 13, LEAST, MOST}) {
            marching(t, marcher(9, 99), 3, n, -1, -1);
            marching(t, marcher(9, 99), 0, n, -1, -1);
        }
    }

    @Sentence(of = "Terms 4", says = "each day he rests (BREATH 10 more, 99 at most),")
    static void marchOfRests(Due t) {
        marching(t, marcher(3, 50), 0, 4, 90, 0);
        marching(t, marcher(3, 50), 0, 5, 99, 0);
        marching(t, marcher(3, 88), 0, 1, 98, 0);
        marching(t, marcher(3, 89), 0, 1, 99, 0);
        marching(t, marcher(3, 90), 0, 1, 99, 0);
        marching(t, marcher(3, 99), 0, 12, 99, 0);
    }

    @Sentence(of = "Terms 4", says = "or, if CELLS are left, goes LEGS of them (fewer, if fewer are left),")
    static void marchByLegs(Due t) {
        marching(t, marcher(3, 50), 3, 1, 35, 1);
        marching(t, marcher(3, 50), 4, 1, -1, -1);
        marching(t, marcher(3, 50), 1, 1, 45, 1);
        marching(t, marcher(3, 50), 4, 2, 30, 3);
        marching(t, marcher(3, 50), 5, 2, 25, 3);
        // None are left: he can but rest.
        marching(t, marcher(3, 99), 3, 2, 94, 1);
    }

    @Sentence(of = "Terms 4", says = "BREATH 5 less for each CELL (he can't, if it would be below 0);")
    static void marchOutOfBreath(Due t) {
        marching(t, marcher(3, 14), 3, 1, -1, -1);
        marching(t, marcher(3, 15), 3, 1, 0, 1);
        marching(t, marcher(3, 16), 3, 1, 1, 1);
        // Not even if he could rest behind it.
        marching(t, marcher(3, 14), 3, 2, 9, 2);
        marching(t, marcher(9, 0), 15, 9, -1, -1);
        marching(t, marcher(9, 0), 15, 10, 5, 0b1100000000);
        marching(t, marcher(3, 0), 0, 1, 10, 0);
    }

    @Sentence(of = "Terms 4", says = "that all are gone, with the most BREATH at last;")
    static void marchWithTheMostBreath(Due t) {
        marching(t, marcher(3, 50), 9, 2, -1, -1);
        marching(t, marcher(3, 50), 9, 3, 5, 7);
        marching(t, marcher(3, 50), 10, 4, 0, 15);
        // Rest, go, go: 69; go, rest, go and go, go, rest: 79
        marching(t, marcher(3, 99), 6, 3, 79, 5);
        // 90, 75, 95, 80, 90, 45: rests as early as nothing beyond 99 is lost
        marching(t, marcher(3, 50), 15, 12, 45, 0b111010010000);
        marching(t, marcher(9, 0), 15, 12, 25, 0b101000000000);
    }

    @Sentence(of = "Terms 4", says = "of several rows the first (rest ahead of go): that;")
    static void marchRestsAheadOfGoing(Due t) {
        marching(t, marcher(3, 50), 6, 3, 30, 6);
        marching(t, marcher(3, 50), 3, 3, 55, 4);
        marching(t, marcher(3, 89), 6, 3, 69, 6);
        marching(t, marcher(3, 90), 6, 3, 70, 5);
        // Go, rest, go, rest
        marching(t, marcher(3, 99), 6, 4, 89, 5);
    }

    @Sentence(of = "Terms 4", says = "the row (day i counts 2 to the i for go).")
    static void marchInRows(Due t) {
        marching(t, marcher(3, 10), 3, 2, 5, 2);
        marching(t, marcher(5, 99), 15, 3, 24, 7);
        // Behind six rests he has 99, behind the march 54, behind five more rests 99.
        marching(t, marcher(9, 50), 9, 12, 99, 1 << 6);
        marching(t, marcher(1, 50), 1, 1, 45, 1);
    }

    @Sentence(of = "Promise 21", says = "MARCH what 0 BREATH, 1 the row.")
    static void promiseOfMarch(Due t) {
        OldestDown x = Due.men(0, 60, 3, 1, 20, 5);
        t.due("BREATH", x.march(1, 10, 3, 0), 10);
        t.due("the row", x.march(1, 10, 3, 1), 6);
        t.due("nothing stays", x.of(1, 3), 50);
    }

    @Sentence(of = "Promise 21", says = "NONE if he can't, one can't be, or another what.")
    static void marchOfNone(Due t) {
        OldestDown x = Due.men(0, 60, 3);
        for (int what = 0; what < 2; what++) {
            t.due("he can't", x.march(0, 4, 1, what), -1);
            for (int m : new int[] {-1, 1, 12, LEAST, MOST}) t.due("MAN " + m, x.march(m, 3, 3, what), -1);
            for (int c : new int[] {-1, 16, LEAST, MOST}) t.due("CELLS " + c, x.march(0, c, 3, what), -1);
            for (int n : new int[] {-1, 0, 13, LEAST, MOST}) t.due("days " + n, x.march(0, 3, n, what), -1);
        }
        for (int what : new int[] {-1, 2, LEAST, MOST}) t.due("what " + what, x.march(0, 3, 3, what), -1);
    }

    // ---- STANDS

    /** MEN of COUNTRY 0 of these AGES: those below 36 are IN THE FIELD, the others at HOME; one of COUNTRY 1 at HOME. */
    private static OldestDown field(int... ages) {
        OldestDown x = new OldestDown();
        int youngs = 0;
        for (int age : ages) {
            x.man(0, age, 1);
            youngs += age < 36 ? 1 : 0;
        }
        x.man(1, 119, 1);
        x.set(0, 0, 0);
        x.set(3, 0, youngs);
        x.set(3, 1, 0);
        Due.tell(x, 0, "call 1 when age < 36; call 0; step 0;");
        if (youngs > 0) x.days(youngs);
        return x;
    }

    private static void standing(Due t, OldestDown x, int pairs, int coin, int... goers) {
        t.due("stands(0, 0)", x.stands(0, 0), pairs);
        t.due("stands(0, 1)", x.stands(0, 1), coin);
        for (int m = 0; m < goers.length; m++) t.due("who goes for " + m, x.stands(0, 10 + m), goers[m]);
    }

    @Sentence(of = "Terms 4", says = "STANDS of a COUNTRY: for each MAN of it IN THE FIELD one of it at HOME may go who is older than he, none for two;")
    static void stands(Due t) {
        standing(t, field(30, 35, 40, 60), 2, 35, 2, 3, -1, -1, -1);
        standing(t, field(30, 35, 40), 1, 5, -1, 2, -1, -1);
        standing(t, field(30, 40, 41), 1, 10, 1, -1, -1, -1);
        t.due("of the other COUNTRY", field(30, 40).stands(1, 0), 0);
    }

    @Sentence(of = "Terms 4", says = "for each MAN of it IN THE FIELD one of it at HOME may go who is older than he, none for two;")
    static void standsForNobody(Due t) {
        standing(t, field(40, 50), 0, 0, -1, -1, -1);
        standing(t, field(30, 35), 0, 0, -1, -1, -1);
        t.due("without MEN", new OldestDown().stands(0, 0), 0);
        t.due("without MEN", new OldestDown().stands(1, 1), 0);
    }

    @Sentence(of = "Terms 4", says = "one of it at HOME may go who is older than he,")
    static void standsForNoneAsOldAsTheOldest(Due t) {
        OldestDown x = Due.war(0, 60, 1, 0, 60, 1, 0, 59, 1, 0, 0, 1);
        Due.tell(x, 0, "step 0;");
        x.set(3, 0, 1);
        x.days(1);
        t.due("the oldest went", x.of(0, 6), 1);
        standing(t, x, 0, 0, -1, -1, -1, -1);
        Due.tell(x, 0, "call 1 when age = 0; call 0; step 0;");
        x.set(3, 0, 2);
        x.days(1);
        t.due("the youngest, too", x.of(3, 6), 1);
        standing(t, x, 1, 59, -1, -1, -1, 2);
    }

    /** In the field 0 (30) and 1 (50), at HOME 2 (51), 3 (40) and 4 (50). */
    private static OldestDown oneOlderThanTheOldest() {
        OldestDown x = Due.war(0, 30, 1, 0, 50, 1, 0, 51, 1, 0, 40, 1, 0, 50, 1);
        Due.tell(x, 0, "call 1 when age = 50; call 0; step 0;");
        x.set(3, 0, 1);
        x.days(1);
        Due.tell(x, 0, "call 1 when age = 30; call 0; step 0;");
        x.set(3, 0, 2);
        x.days(1);
        return x;
    }

    @Sentence(of = "Terms 4", says = "one of it at HOME may go who is older than he,")
    static void standsForTheYoungerAlone(Due t) {
        OldestDown x = oneOlderThanTheOldest();
        // As old as 1 is 4, who may not go for him.
        standing(t, x, 2, 11, 3, 2, -1, -1, -1);
    }

    @Sentence(of = "Terms 4", says = "it costs as much COIN as he is older: for as many as can be, at the least COIN together;")
    static void standsAtTheLeastCoin(Due t) {
        standing(t, field(30, 35, 36), 1, 1, -1, 2, -1);
        standing(t, field(20, 30, 31, 36, 37), 2, 12, -1, 3, 4, -1, -1);
        standing(t, field(30, 30, 40, 50, 40), 2, 20, 2, 4, -1, -1);
        standing(t, field(0, 120), 1, 120, 1, -1);
    }

    @Sentence(of = "Terms 4", says = "for as many as can be, at the least COIN together;")
    static void standsForAsManyAsCanBe(Due t) {
        // 2 for 1 at 1, or for 0 at 21; 3 for 0 at 10 as well: more MEN ahead of less COIN.
        standing(t, oneOlderThanTheOldest(), 2, 11, 3, 2, -1, -1, -1);
        // Five for five, with all COIN at its most.
        standing(t, field(0, 0, 0, 0, 0, 120, 120, 120, 120, 120), 5, 600, 5, 6, 7, 8, 9, -1);
    }

    @Sentence(of = "Terms 4", says = "who goes for a MAN: of several ways the first (MAN by MAN, the lesser one, nobody last).")
    static void standsTheLesserOneFirst(Due t) {
        // 40 and 50 for two of 30: the first gets the lesser MAN.
        standing(t, field(30, 30, 50, 40), 2, 30, 2, 3, -1, -1);
        standing(t, field(30, 20, 30, 50, 40, 45), 3, 55, 3, 4, 5, -1);
    }

    @Sentence(of = "Terms 4", says = "(MAN by MAN, the lesser one, nobody last).")
    static void standsNobodyLast(Due t) {
        standing(t, field(30, 30, 30, 40), 1, 10, 3, -1, -1, -1);
        standing(t, field(30, 30, 30, 40, 41), 2, 21, 3, 4, -1, -1);
        standing(t, field(30, 31, 30, 40), 1, 9, -1, 3, -1, -1);
    }

    @Sentence(of = "Promise 22", says = "STANDS what 0 how many, 1 COIN, 10 + m who goes for MAN m (NONE: nobody, or he is not such a one).")
    static void promiseOfStands(Due t) {
        OldestDown x = field(30, 35, 40);
        standing(t, x, 1, 5, -1, 2, -1, -1);
        for (int m = 4; m < 12; m++) t.due("no such MAN", x.stands(0, 10 + m), -1);
        t.due("of the other COUNTRY", x.stands(1, 11), -1);
        t.due("nobody goes", x.of(1, 6), 1);
    }

    @Sentence(of = "Promise 22", says = "NONE if there is no such COUNTRY, or another what.")
    static void standsWhatElse(Due t) {
        OldestDown x = field(30, 35, 40);
        for (int c : new int[] {-1, 2, LEAST, MOST}) {
            t.due("stands(" + c + ", 0)", x.stands(c, 0), -1);
            t.due("stands(" + c + ", 11)", x.stands(c, 11), -1);
        }
        for (int what : new int[] {-1, 2, 9, 22, LEAST, LEAST + 10, MOST}) t.due("stands(0, " + what + ")", x.stands(0, what), -1);
    }

    // ---- SLIPPERS

    @Sentence(of = "Terms 4", says = "SLIPPERS, up to 10:")
    static void tenSlippers(Due t) {
        OldestDown x = new OldestDown();
        for (int i = 1; i <= 10; i++) t.due("SLIPPER", x.slipper(1, 1, 1), i);
        t.due("the 11th", x.slipper(1, 1, 1), -1);
        t.due("SLIPPERS", x.look(13), 10);
    }

    @Sentence(of = "Terms 4", says = "on a day d (0 .. 30) behind his calling a slipper lay at a CELL k from his end (0 .. 15) with legs of l (1 .. 9) or none told (0).")
    static void slippersThatCanBe(Due t) {
        OldestDown x = new OldestDown();
        for (int d : new int[] {-2, 31, LEAST, MOST}) t.due("day " + d, x.slipper(d, 0, 0), -1);
        for (int k : new int[] {-1, 16, LEAST, MOST}) t.due("CELL " + k, x.slipper(1, k, 0), -1);
        for (int l : new int[] {-1, 10, LEAST, MOST}) t.due("legs " + l, x.slipper(1, 0, l), -1);
        t.due("none yet", x.look(13), 0);
        t.due("the least", x.slipper(0, 0, 0), 1);
        t.due("the most", x.slipper(30, 15, 9), 2);
        t.due("legs 1", x.slipper(1, 0, 1), 3);
    }

    @Sentence(of = "Promise 23", says = "A SLIPPER (day NONE: none is then): how many;")
    static void promiseOfSlipper(Due t) {
        OldestDown x = Due.many(2);
        t.due("none is, and none was", x.slipper(-1, 0, 0), 0);
        t.due("first", x.slipper(0, 1, 0), 1);
        t.due("second", x.slipper(0, 1, 0), 2);
        t.due("nobody", x.left(), 0);
        t.due("none is then", x.slipper(-1, 0, 0), 0);
        t.due("SLIPPERS", x.look(13), 0);
        t.due("everybody", x.left(), 3);
        t.due("first", x.slipper(0, 0, 0), 1);
        t.due("none is then, whatever else is told", x.slipper(-1, 99, -99), 0);
        t.due("SLIPPERS", x.look(13), 0);
    }

    @Sentence(of = "Promise 23", says = "NONE if one can't be, or there are ten.")
    static void slippersThatCanNotBe(Due t) {
        OldestDown x = Due.many(2);
        t.due("one that can't be", x.slipper(31, 0, 0), -1);
        for (int i = 1; i <= 10; i++) x.slipper(1, 1, 0);
        t.due("there are ten", x.slipper(1, 1, 0), -1);
        t.due("and one that can't be", x.slipper(1, 16, 0), -1);
        t.due("SLIPPERS", x.look(13), 10);
        t.due("none is then", x.slipper(-1, 0, 0), 0);
        t.due("one more", x.slipper(1, 1, 0), 1);
    }

    // ---- LEFT, ASK

    @Sentence(of = "Terms 4", says = "LEFT by: MEN who could have left all of them: k at most LEGS times d,")
    static void leftByLegsTimesDays(Due t) {
        OldestDown x = Due.men(0, 60, 1, 1, 60, 2, 0, 20, 3, 1, 60, 4, 0, 60, 2);
        t.due("without SLIPPERS", x.left(), 31);
        x.slipper(2, 4, 0);
        t.due("4 in 2 days", x.left(), 30);
        x.slipper(5, 11, 0);
        t.due("11 in 5 days, too", x.left(), 12);
        x.slipper(-1, 0, 0);
        x.slipper(0, 0, 0);
        t.due("none in no day", x.left(), 31);
        x.slipper(0, 1, 0);
        t.due("1 in no day", x.left(), 0);
        x.slipper(-1, 0, 0);
        x.slipper(30, 15, 0);
        t.due("15 in 30 days", x.left(), 31);
    }

    @Sentence(of = "Terms 4", says = "LEGS l, if told (a set).")
    static void leftByLegsTold(Due t) {
        OldestDown x = Due.men(0, 60, 1, 1, 60, 2, 0, 20, 9, 1, 60, 4, 0, 60, 2);
        x.slipper(30, 15, 2);
        t.due("LEGS 2", x.left(), 18);
        x.slipper(30, 15, 0);
        t.due("none told", x.left(), 18);
        x.slipper(30, 15, 4);
        t.due("LEGS 2 and 4", x.left(), 0);
        x.slipper(-1, 0, 0);
        x.slipper(1, 9, 9);
        t.due("LEGS 9", x.left(), 4);
        x.slipper(-1, 0, 0);
        x.slipper(1, 2, 1);
        t.due("LEGS 1 that went 2", x.left(), 0);
    }

    @Sentence(of = "Promise 24", says = "LEFT, as a set.")
    static void promiseOfLeft(Due t) {
        t.due("without MEN", new OldestDown().left(), 0);
        t.due("of twelve", Due.many(12).left(), 4095);
        OldestDown x = Due.men(0, 60, 9, 1, 60, 1, 0, 60, 9);
        x.slipper(1, 9, 0);
        t.due("of three", x.left(), 5);
    }

    @Sentence(of = "Terms 4", says = "ASK: of l 1 .. 9 that for which of LEFT's those with LEGS l at most and those with more: the greater number is least;")
    static void ask(Due t) {
        t.due("halves", Due.men(0, 60, 3, 1, 60, 5).ask(), 3);
        t.due("two against one", Due.men(0, 60, 4, 0, 60, 6, 0, 60, 8).ask(), 4);
        t.due("odd ones", Due.men(0, 60, 4, 0, 60, 4, 0, 60, 4, 0, 60, 8, 0, 60, 9, 0, 60, 9).ask(), 4);
        OldestDown x = Due.men(0, 60, 1, 0, 60, 1, 0, 60, 1, 0, 60, 5, 0, 60, 8);
        t.due("of all", x.ask(), 1);
        x.slipper(1, 3, 0);
        t.due("of LEFT alone", x.ask(), 5);
    }

    @Sentence(of = "Terms 4", says = "the greater number is least; of several the least.")
    static void askTheLeast(Due t) {
        t.due("all alike: 9, 9", Due.men(0, 60, 9, 0, 60, 9).ask(), 1);
        t.due("all alike: 1, 1", Due.men(0, 60, 1, 0, 60, 1).ask(), 1);
        t.due("twelve alike", Due.many(12).ask(), 1);
        t.due("1, 2, 7, 7", Due.men(0, 60, 2, 0, 60, 7, 0, 60, 7, 1, 60, 1).ask(), 2);
        t.due("8, 9", Due.men(0, 60, 9, 0, 60, 8).ask(), 8);
    }

    @Sentence(of = "Promise 25", says = "ASK; NONE if LEFT are fewer than two.")
    static void askFewerThanTwo(Due t) {
        t.due("without MEN", new OldestDown().ask(), -1);
        t.due("one MAN", Due.many(1).ask(), -1);
        OldestDown x = Due.men(0, 60, 1, 1, 60, 2);
        t.due("two", x.ask(), 1);
        x.slipper(1, 2, 0);
        t.due("one alone", x.ask(), -1);
        x.slipper(0, 1, 0);
        t.due("nobody", x.ask(), -1);
    }

    // ---- FORGETS, LAST

    @Sentence(of = "Terms 4", says = "FORGETS: of a million, that a MAN has forgotten all he KNOWS after n (0 .. 60) DAYS with fade as now:")
    static void forgets(Due t) {
        OldestDown x = Due.many(1);
        t.due("who KNOWS nothing, at once", x.forgets(0, 0), 1000000);
        t.due("who KNOWS nothing, ever", x.forgets(0, 60), 1000000);
        x.teach(0, 3);
        t.due("at once", x.forgets(0, 0), 0);
        t.due("in 1 DAY", x.forgets(0, 1), 50000);
        t.due("61 DAYS", x.forgets(0, 61), -1);
        t.due("-1 DAYS", x.forgets(0, -1), -1);
        Due.tell(x, 0, "fade 1000;");
        t.due("for sure", x.forgets(0, 1), 1000000);
        t.due("for sure", x.forgets(0, 60), 1000000);
        Due.tell(x, 0, "fade 0;");
        t.due("never", x.forgets(0, 60), 0);
    }

    @Sentence(of = "Terms 4", says = "after n (0 .. 60) DAYS with fade as now:")
    static void forgetsAsNow(Due t) {
        OldestDown x = Due.many(1);
        x.teach(0, 0);
        x.teach(0, 1);
        Due.tell(x, 0, "fade 1000 when facts = 2 and day = 0; fade 0;");
        t.due("though he will KNOW fewer and it will be later", x.forgets(0, 2), 1000000);
        t.due("no DRAWS", x.look(8), 0);
        t.due("nothing stays", x.of(0, 4), 3);
    }

    @Sentence(of = "Terms 4", says = "chances by how many he KNOWS yet: each DAY of each number above 0 times fade by 1000 downwards to one fewer, the rest stays; how many of a million have 0.")
    static void forgetsOneByOne(Due t) {
        OldestDown x = Due.many(1);
        x.teach(0, 3);
        Due.tell(x, 0, "fade 333;");
        // 1000000, 667000, 444889, 296741 (148148.037 go), 197927 (98814.753 go) stay.
        int[] dues = {0, 333000, 555111, 703259, 802073};
        for (int n = 0; n < dues.length; n++) t.due("one in " + n, x.forgets(0, n), dues[n]);
        x.teach(0, 5);
        Due.tell(x, 0, "fade 500;");
        int[] then = {0, 0, 250000, 500000, 687500};
        for (int n = 0; n < then.length; n++) t.due("two in " + n, x.forgets(0, n), then[n]);
        Due.tell(x, 0, "fade 1;");
        // 2: 1000000, 999000, 998001; 1: 0, 1000, 1998; 0: 0, 0, 1, 2
        int[] rarely = {0, 0, 1, 2};
        for (int n = 0; n < rarely.length; n++) t.due("two rarely in " + n, x.forgets(0, n), rarely[n]);
    }

    @Sentence(of = "Terms 4", says = "each DAY of each number above 0 times fade by 1000 downwards to one fewer, the rest stays;")
    static void forgetsAllEight(Due t) {
        OldestDown x = Due.many(1);
        for (int f = 0; f < 8; f++) x.teach(0, f);
        Due.tell(x, 0, "fade 1000;");
        t.due("eight in seven", x.forgets(0, 7), 0);
        t.due("eight in eight", x.forgets(0, 8), 1000000);
        t.due("eight in sixty", x.forgets(0, 60), 1000000);
    }

    @Sentence(of = "Promise 26", says = "FORGETS; NONE if one can't be.")
    static void forgetsOfNone(Due t) {
        OldestDown x = Due.many(1);
        for (int n : new int[] {-1, 61, LEAST, MOST}) t.due("DAYS " + n, x.forgets(0, n), -1);
        for (int m : new int[] {-1, 1, 12, LEAST, MOST}) t.due("MAN " + m, x.forgets(m, 5), -1);
    }

    @Sentence(of = "Terms 4", says = "LAST: who of all KNOWS most (of several the oldest, then the least).")
    static void last(Due t) {
        OldestDown x = Due.men(0, 60, 3, 1, 70, 3, 0, 70, 3, 1, 69, 3);
        t.due("nobody KNOWS: the oldest, then the least", x.last(), 1);
        x.teach(3, 7);
        t.due("who KNOWS most", x.last(), 3);
        x.teach(2, 0);
        t.due("of several the oldest", x.last(), 2);
        x.teach(1, 1);
        t.due("then the least", x.last(), 1);
        x.teach(0, 4);
        x.teach(0, 5);
        t.due("who KNOWS most", x.last(), 0);
        t.due("AGE 0, who KNOWS nothing", Due.men(1, 0, 3).last(), 0);
    }

    @Sentence(of = "Promise 27", says = "LAST; NONE without MEN.")
    static void lastOfNobody(Due t) {
        t.due("without MEN", new OldestDown().last(), -1);
        t.due("one MAN", Due.many(1).last(), 0);
    }

    // ---- TREATY

    private static void treating(Due t, OldestDown x, int weight, int set) {
        t.due("treaty(0)", x.treaty(0), weight);
        t.due("treaty(1)", x.treaty(1), set);
    }

    @Sentence(of = "Terms 4", says = "TREATY: the FACTS (a set) to be forgotten by all so that in some COUNTRY the weight is below KEEP: the least weight together;")
    static void treaty(Due t) {
        OldestDown x = Due.men(0, 60, 3, 1, 60, 3, 1, 60, 3);
        for (int f : new int[] {1, 2, 6}) x.teach(0, f);
        x.teach(1, 3);
        x.teach(2, 4);
        Due.tell(x, 2, "fact 1 weighs 10; fact 2 weighs 3; fact 6 weighs 4; fact 3 weighs 9; fact 4 weighs 9;");
        // 17 of COUNTRY 0, 18 of COUNTRY 1
        treating(t, x, 17, 2 + 4 + 64);
        int[] keeps = {11, 14, 15, 17, 18};
        int[] weights = {7, 4, 3, 3, 0};
        int[] sets = {4 + 64, 64, 4, 4, 0};
        for (int i = 0; i < keeps.length; i++) {
            x.set(0, 0, keeps[i]);
            treating(t, x, weights[i], sets[i]);
        }
    }

    @Sentence(of = "Terms 4", says = "to be forgotten by all so that in some COUNTRY the weight is below KEEP:")
    static void treatyOfEither(Due t) {
        OldestDown x = Due.men(0, 60, 3, 1, 60, 3);
        x.teach(0, 0);
        x.teach(1, 5);
        Due.tell(x, 2, "fact 0 weighs 9; fact 5 weighs 8;");
        treating(t, x, 8, 32);
        Due.tell(x, 2, "fact 0 weighs 7; fact 5 weighs 8;");
        treating(t, x, 7, 1);
        OldestDown y = Due.men(0, 60, 3);
        y.teach(0, 0);
        treating(t, y, 0, 0);
        treating(t, new OldestDown(), 0, 0);
    }

    @Sentence(of = "Terms 4", says = "of several the fewest FACTS, then the least set")
    static void treatyOfSeveral(Due t) {
        OldestDown x = Due.men(0, 60, 3, 1, 60, 3);
        for (int f = 1; f < 5; f++) x.teach(0, f);
        for (int f = 3; f < 8; f++) x.teach(1, f);
        Due.tell(x, 2, "fact 1 weighs 2; fact 2 weighs 2; fact 3 weighs 4; fact 4 weighs 4; fact 5 weighs 8; fact 6 weighs 0;");
        x.set(0, 0, 9);
        // 12 of COUNTRY 0: forget 4 by FACT 3, by 4, or by 1 and 2; 17 of COUNTRY 1.
        treating(t, x, 4, 8);
        x.set(0, 0, 11);
        treating(t, x, 2, 2);
        OldestDown y = Due.men(0, 60, 3, 1, 60, 3);
        for (int m = 0; m < 2; m++) for (int f = 0; f < 3; f++) y.teach(m, f);
        Due.tell(y, 2, "fact 0 weighs 2; fact 1 weighs 2; fact 2 weighs 4;");
        y.set(0, 0, 5);
        treating(t, y, 4, 4);
    }

    @Sentence(of = "Terms 4", says = "(of those that somebody KNOWS).")
    static void treatyOfKnownFacts(Due t) {
        OldestDown x = Due.men(0, 60, 3, 1, 60, 3);
        x.teach(0, 2);
        x.teach(1, 2);
        x.teach(1, 7);
        Due.tell(x, 2, "fact 0 weighs 0; fact 1 weighs 0; fact 2 weighs 5; fact 7 weighs 0;");
        treating(t, x, 5, 4);
        x.set(0, 0, 6);
        treating(t, x, 0, 0);
    }

    @Sentence(of = "Promise 28", says = "TREATY what 0 the weight, 1 the set.")
    static void promiseOfTreaty(Due t) {
        OldestDown x = Due.men(0, 60, 3, 1, 60, 3);
        x.teach(0, 1);
        x.teach(1, 1);
        treating(t, x, 1, 2);
        t.due("nothing stays", x.of(0, 4), 2);
        for (int m = 0; m < 2; m++) for (int f = 0; f < 8; f++) x.teach(m, f);
        treating(t, x, 8, 255);
    }

    @Sentence(of = "Promise 28", says = "NONE if none does (KEEP 0), or for another what.")
    static void treatyOfNone(Due t) {
        OldestDown x = Due.men(0, 60, 3, 1, 60, 3);
        x.set(0, 0, 0);
        treating(t, x, -1, -1);
        x.teach(0, 1);
        x.teach(1, 1);
        treating(t, x, -1, -1);
        x.set(0, 0, 1);
        for (int what : new int[] {-1, 2, LEAST, MOST}) t.due("treaty(" + what + ")", x.treaty(what), -1);
    }
}
