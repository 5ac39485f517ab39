/** Terms 3: what goes on in a DAY, from (a) to (h). */
final class DaySentences {
    // ---- without WAR

    @Sentence(of = "Terms 3", says = "A DAY. Is WAR 0: nothing but (e), (f), (h).")
    static void peace(Due t) {
        OldestDown x = Due.men(0, 80, 3, 1, 80, 3);
        x.days(1);
        t.due("WAR", x.look(2), 0);
        int lines = x.look(7);
        x.days(6);
        for (int m = 0; m < 2; m++) t.where(x, m, 0, -1, 50);
        t.due("nobody called, no second peace", x.look(7), lines);
        Due.tell(x, 1, "0 tells 1;");
        Due.tell(x, 0, "fade 1000 when facts > 1; fade 0;");
        x.teach(0, 6);
        x.teach(1, 2);
        t.due("DAYS of WAR", x.days(1), 0);
        t.due("(e): told on, (f): forgotten", x.of(1, 4), 64);
        t.line(x, lines, 7, 3, 1, 2);
        t.due("(h)", x.look(1), 8);
        x.set(0, 0, 0);
        t.due("KEEP 0 brings no WAR", x.days(2), 0);
        t.due("lines", x.look(7), lines + 1);
    }

    // ---- (a)

    @Sentence(of = "Terms 3", says = "(a) COUNTRY by COUNTRY: has it fewer than WANT IN THE FIELD, it calls one:")
    static void callsOneADay(Due t) {
        OldestDown x = Due.war(0, 80, 1, 0, 80, 1, 0, 80, 1, 0, 80, 1);
        x.set(3, 0, 3);
        for (int day = 0; day < 6; day++) {
            x.days(1);
            t.due("IN THE FIELD behind DAY " + day, x.country(0, 0), Math.min(3, day + 1));
            t.due("lines", x.look(7), Math.min(3, day + 1));
        }
    }

    @Sentence(of = "Terms 3", says = "(a) COUNTRY by COUNTRY: has it fewer than WANT IN THE FIELD, it calls one:")
    static void countryByCountry(Due t) {
        OldestDown x = Due.war(1, 99, 1, 0, 70, 1);
        x.days(1);
        t.line(x, 0, 0, 0, 1, 0);
        t.line(x, 1, 0, 0, 0, 15);
        t.due("lines", x.look(7), 2);
    }

    @Sentence(of = "Terms 3", says = "has it fewer than WANT IN THE FIELD, it calls one:")
    static void wantsNobody(Due t) {
        OldestDown x = Due.war(0, 80, 1, 0, 80, 1, 1, 80, 1);
        x.set(3, 0, 0);
        x.days(2);
        t.due("WANT 0", x.country(0, 0), 0);
        t.due("of the other, as it has no more", x.country(1, 0), 1);
    }

    @Sentence(of = "Terms 3", says = "has it fewer than WANT IN THE FIELD, it calls one:")
    static void hasMoreThanItWants(Due t) {
        OldestDown x = Due.war(0, 80, 1, 0, 80, 1, 0, 80, 1);
        x.days(2);
        x.set(3, 0, 1);
        x.days(1);
        t.due("nobody goes HOME, nobody is called", x.country(0, 0), 2);
        t.due("lines", x.look(7), 2);
        x.set(3, 0, 3);
        x.days(1);
        t.due("one more", x.country(0, 0), 3);
    }

    @Sentence(of = "Terms 3", says = "of those at HOME whose call is above 0")
    static void callMustBeAboveZero(Due t) {
        OldestDown x = Due.war(0, 59, 1, 0, 58, 1);
        x.days(2);
        t.due("call 0", x.country(0, 0), 0);
        Due.tell(x, 0, "call 1 when age = 58; call 0;");
        x.days(2);
        t.line(x, 0, 2, 0, 1, 0);
        t.due("call 1 alone", x.country(0, 0), 1);
        Due.tell(x, 0, "call 0 - 1;");
        x.days(1);
        t.due("call below 0", x.country(0, 0), 1);
    }

    @Sentence(of = "Terms 3", says = "of those at HOME whose call is above 0")
    static void captivesAreNotCalled(Due t) {
        OldestDown x = Due.war(0, 70, 9, 1, 70, 9);
        x.set(5, 0, 40);
        Due.tell(x, 0, "step 9 when day < 1; step 0;");
        x.days(3);
        t.due("CAPTIVE", x.of(0, 6), 2);
        t.due("calls of DAY 0 and who was beaten", x.look(7), 3);
        x.days(2);
        t.due("called when he is back", x.of(0, 6), 1);
        t.line(x, 4, 4, 0, 0, 0);
    }

    @Sentence(of = "Terms 3", says = "the one with the greatest call,")
    static void theGreatestCall(Due t) {
        OldestDown x = Due.war(0, 90, 1, 0, 60, 1, 0, 80, 1);
        Due.tell(x, 0, "call 100 - age;");
        x.set(3, 0, 3);
        x.days(3);
        int[] dues = {1, 2, 0};
        for (int i = 0; i < 3; i++) t.line(x, i, i, 0, dues[i], 0);
    }

    @Sentence(of = "Terms 3", says = "of several the oldest, then the least:")
    static void theOldestThenTheLeast(Due t) {
        OldestDown x = Due.war(0, 60, 1, 0, 90, 1, 0, 90, 1, 0, 91, 1);
        Due.tell(x, 0, "call 9 when age = 91; call 10; step 0;");
        x.set(3, 0, 9);
        x.days(4);
        int[] dues = {1, 2, 0, 3};
        for (int i = 0; i < 4; i++) t.line(x, i, i, 0, dues[i], 0);
    }

    @Sentence(of = "Terms 3", says = "he is IN THE FIELD at CELL 0 or 15.")
    static void whereTheCalledOneIs(Due t) {
        OldestDown x = Due.war(0, 70, 4, 1, 70, 4);
        Due.tell(x, 0, "step 0;");
        x.days(1);
        t.where(x, 0, 1, 0, 50);
        t.where(x, 1, 1, 15, 50);
    }

    // ---- (b)

    @Sentence(of = "Terms 3", says = "(b) MAN by MAN IN THE FIELD whose COUNTRY is not told to rest:")
    static void manByMan(Due t) {
        // The lesser one goes first: he comes as far as he can, the other one comes to him.
        OldestDown x = Due.war(0, 70, 9, 1, 70, 9);
        x.days(1);
        t.due("9 CELLS", x.of(0, 7), 9);
        t.due("6 CELLS", x.of(1, 7), 9);
        OldestDown y = Due.war(1, 70, 9, 0, 70, 9);
        y.days(1);
        t.due("9 CELLS", y.of(0, 7), 6);
        t.due("6 CELLS", y.of(1, 7), 6);
    }

    @Sentence(of = "Terms 3", says = "(b) MAN by MAN IN THE FIELD whose COUNTRY is not told to rest:")
    static void thoseAtHomeNeitherNapNorRest(Due t) {
        OldestDown x = Due.war(0, 70, 9, 1, 70, 9, 0, 20, 1, 1, 20, 1);
        x.set(5, 0, 40);
        Due.tell(x, 0, "step 9 when day < 1; nap 20;");
        Due.tell(x, 3, "on 1 rest 0; on 1 rest 1;");
        x.days(1);
        t.where(x, 0, 1, 0, 60);
        t.where(x, 2, 0, -1, 50);
        x.days(1);
        t.where(x, 2, 0, -1, 50);
        t.where(x, 3, 0, -1, 50);
        t.where(x, 0, 1, 0, 70);
    }

    @Sentence(of = "Terms 3", says = "is his nap above 0, BREATH is nap more (99 at most);")
    static void naps(Due t) {
        OldestDown x = Due.war(0, 70, 4);
        Due.tell(x, 0, "nap 1;");
        x.days(1);
        t.where(x, 0, 1, 0, 51);
        Due.tell(x, 0, "nap 47;");
        x.days(1);
        t.where(x, 0, 1, 0, 98);
        Due.tell(x, 0, "nap 1;");
        x.days(1);
        t.where(x, 0, 1, 0, 99);
        x.days(1);
        t.where(x, 0, 1, 0, 99);
        x.set(5, 0, 98);
        Due.tell(x, 0, "nap 99;");
        x.days(1);
        t.where(x, 0, 1, 0, 99);
        Due.tell(x, 0, "nap 0;");
        x.days(1);
        t.where(x, 0, 1, 4, 99);
    }

    @Sentence(of = "Terms 3", says = "else he goes on CELL by CELL, as many as step tells;")
    static void goesAsManyAsStepTells(Due t) {
        OldestDown x = Due.war(0, 70, 4, 1, 70, 4);
        Due.tell(x, 0, "step day;");
        int[] up = {0, 1, 3, 6};
        for (int day = 0; day < 4; day++) {
            x.days(1);
            t.where(x, 0, 1, up[day], 50);
            t.where(x, 1, 1, 15 - up[day], 50);
        }
    }

    @Sentence(of = "Terms 3", says = "a CELL that is a HILL takes two (one left: he stays ahead of it);")
    static void hillsTakeTwo(Due t) {
        OldestDown x = Due.war(0, 70, 4);
        x.set(4, 2, 1);
        x.set(4, 4, 1);
        x.days(1);
        // 1, then 2 for two, then 3; 4 for two, then 5 and 6
        t.where(x, 0, 1, 3, 50);
        x.days(1);
        t.where(x, 0, 1, 6, 50);
        OldestDown y = Due.war(1, 70, 3);
        y.set(4, 12, 1);
        y.set(4, 11, 1);
        y.days(1);
        t.where(y, 0, 1, 13, 50);
        y.days(1);
        t.where(y, 0, 1, 12, 50);
        y.days(1);
        t.where(y, 0, 1, 10, 50);
    }

    @Sentence(of = "Terms 3", says = "a CELL that is a HILL takes two (one left: he stays ahead of it);")
    static void oneLeftAheadOfAHill(Due t) {
        OldestDown x = Due.war(0, 70, 1, 1, 70, 2);
        x.set(4, 1, 1);
        x.set(4, 13, 1);
        x.set(4, 14, 1);
        x.days(1);
        t.where(x, 0, 1, 0, 50);
        t.where(x, 1, 1, 14, 50);
        x.days(1);
        t.where(x, 0, 1, 0, 50);
        t.where(x, 1, 1, 13, 50);
        Due.tell(x, 0, "step 2;");
        x.days(1);
        t.where(x, 0, 1, 1, 50);
    }

    @Sentence(of = "Terms 3", says = "a CELL that is a HILL takes two")
    static void hillsAtTheEnds(Due t) {
        OldestDown x = Due.war(0, 70, 2);
        x.set(4, 0, 1);
        x.set(4, 15, 1);
        x.days(1);
        t.where(x, 0, 1, 2, 50);
        Due.tell(x, 0, "step 9 when cell < 10; step 3 when cell = 11; step 1;");
        x.days(1);
        t.where(x, 0, 1, 11, 50);
        x.days(2);
        t.where(x, 0, 1, 14, 50);
        t.due("one left ahead of CELL 15", x.look(2), 1);
        Due.tell(x, 0, "step 2;");
        x.days(1);
        t.due("come to CELL 15", x.look(2), 0);
    }

    @Sentence(of = "Terms 3", says = "he does not go on from a CELL in which one of the other COUNTRY is,")
    static void doesNotPassTheOther(Due t) {
        OldestDown x = Due.war(0, 70, 9, 1, 70, 9);
        x.days(1);
        t.due("he comes to him", x.of(1, 7), 9);
        for (int day = 1; day < 5; day++) {
            x.days(1);
            t.due("both stay", x.of(0, 7), 9);
            t.due("both stay", x.of(1, 7), 9);
        }
    }

    @Sentence(of = "Terms 3", says = "he does not go on from a CELL in which one of the other COUNTRY is,")
    static void passesHisOwn(Due t) {
        OldestDown x = Due.war(0, 90, 1, 0, 80, 9, 1, 90, 9, 1, 80, 9);
        Due.tell(x, 0, "step 0 when age = 90; step 2;");
        x.set(3, 1, 0);
        x.days(2);
        t.due("past his own", x.of(1, 7), 2);
        t.due("his own", x.of(0, 7), 0);
    }

    @Sentence(of = "Terms 3", says = "nor beyond the last one.")
    static void notBeyondTheLastOne(Due t) {
        // 1 of COUNTRY 1 stays at CELL 15, so that WAR goes on.
        OldestDown x = Due.war(0, 70, 9, 1, 70, 1);
        Due.tell(x, 0, "step 9 when country = 0; step 0;");
        x.days(2);
        t.where(x, 0, 1, 15, 25);
        x.days(1);
        t.where(x, 0, 1, 15, 12);
        OldestDown y = Due.war(1, 70, 9);
        t.due("DAYS of WAR", y.days(3), 2);
        OldestDown z = Due.war(0, 70, 9, 1, 70, 9);
        Due.tell(z, 0, "step 9 when country = 1; step 0;");
        z.days(2);
        t.where(z, 1, 1, 0, 25);
    }

    @Sentence(of = "Terms 3", says = "Who rests, BREATH is 10 more (99 at most).")
    static void rests(Due t) {
        OldestDown x = Due.war(0, 70, 4, 1, 70, 4, 0, 20, 1);
        Due.tell(x, 0, "nap 50;");
        Due.tell(x, 3, "on 0 rest 0; on 1 rest 0; on 2 rest 0; on 3 rest 0;");
        x.days(1);
        t.where(x, 0, 1, 0, 60);
        t.where(x, 1, 1, 15, 99);
        int[] breaths = {89, 90, 99};
        int[] dues = {99, 99, 99};
        for (int i = 0; i < 3; i++) {
            x.set(5, 0, breaths[i]);
            x.days(1);
            t.where(x, 0, 1, 0, dues[i]);
        }
        x.set(5, 0, 20);
        x.days(1);
        t.where(x, 0, 1, 0, 70);
    }

    @Sentence(of = "Terms 3", says = "Who rests, BREATH is 10 more (99 at most).")
    static void restsOfTheOther(Due t) {
        OldestDown x = Due.war(0, 70, 4, 1, 70, 4);
        Due.tell(x, 3, "on 0 rest 1; on 1 rest 1; on 1 rest 0;");
        x.days(1);
        t.where(x, 0, 1, 4, 50);
        t.where(x, 1, 1, 15, 60);
        x.days(1);
        t.where(x, 0, 1, 4, 60);
        t.where(x, 1, 1, 15, 70);
        x.days(1);
        t.where(x, 0, 1, 8, 60);
        t.where(x, 1, 1, 11, 70);
    }

    // ---- (c)

    /** MEN 0 (90), 1 (80), 2 (80) of a COUNTRY stand at its end; 3 (70) of the other one comes to them on DAY 4. */
    private static OldestDown threeAtTheEndOf(int c, int... breaths) {
        OldestDown x = Due.war(c, 90, 1, c, 80, 1, c, 80, 1, 1 - c, 70, 9);
        x.set(3, c, 3);
        Due.tell(x, 0, "step 0;");
        x.days(3);
        Due.tell(x, 0, "step 0 when country = " + c + ";");
        x.days(1);
        for (int m = 0; m < 4; m++) x.set(5, m, breaths[m]);
        return x;
    }

    @Sentence(of = "Terms 3", says = "(c) CELL by CELL in which both are: the COUNTRY with the lesser sum of BREATH there is beaten:")
    static void theLesserSumIsBeaten(Due t) {
        for (int c = 0; c < 2; c++) {
            OldestDown x = threeAtTheEndOf(c, 31, 20, 40, 92);
            x.days(1);
            t.due("91 against 92: the three are beaten", x.country(c, 0), 0);
            OldestDown y = threeAtTheEndOf(c, 31, 20, 40, 90);
            y.days(1);
            t.due("91 against 90: the one is beaten", y.of(3, 6), 2);
            t.due("the three stay", y.country(c, 0), 3);
        }
    }

    /** The next DAY MAN 0 goes to CELL 5, 3 comes to him; 1 goes to CELL 4, 2 to CELL 11. */
    private static OldestDown twoOfFourMeet() {
        OldestDown x = Due.war(0, 90, 9, 0, 80, 2, 1, 90, 2, 1, 80, 9);
        Due.tell(x, 0, "step 5 when country = 0 and age = 90; step 5 when country = 1 and age = 80;"
            + "step 5 when country = 0 and day < 2; step 4 when day > 1; step 0;");
        Due.tell(x, 3, "on 0 rest 1; on 0 rest 0; on 1 rest 0;");
        x.days(2);
        int[] breaths = {60, 99, 99, 50};
        for (int m = 0; m < 4; m++) x.set(5, m, breaths[m]);
        return x;
    }

    @Sentence(of = "Terms 3", says = "(c) CELL by CELL in which both are: the COUNTRY with the lesser sum of BREATH there is beaten:")
    static void onlyThoseThereFight(Due t) {
        OldestDown x = twoOfFourMeet();
        x.days(1);
        t.where(x, 0, 1, 5, 50);
        t.where(x, 1, 1, 4, 99);
        t.where(x, 2, 1, 11, 99);
        t.where(x, 3, 2, -1, 50);
        t.line(x, 4, 2, 1, 3, 5);
        t.due("lines", x.look(7), 5);
    }

    @Sentence(of = "Terms 3", says = "its youngest one there (of several the least) is CAPTIVE,")
    static void theYoungestIsCaptive(Due t) {
        OldestDown x = threeAtTheEndOf(0, 31, 20, 40, 92);
        x.days(1);
        t.line(x, 4, 4, 1, 1, 0);
        OldestDown y = Due.war(0, 90, 1, 0, 80, 1, 0, 79, 1, 1, 70, 9);
        y.set(3, 0, 3);
        Due.tell(y, 0, "step 9 when country = 1 and day > 2; step 0;");
        y.set(5, 3, 99);
        for (int m = 0; m < 3; m++) y.set(5, m, 11);
        y.days(5);
        t.line(y, 4, 4, 1, 2, 0);
    }

    @Sentence(of = "Terms 3", says = "its youngest one there (of several the least) is CAPTIVE,")
    static void theCaptiveKeepsHisBreath(Due t) {
        OldestDown x = Due.war(0, 70, 9, 1, 70, 9);
        x.set(5, 0, 33);
        x.days(1);
        t.where(x, 0, 2, -1, 33);
        t.due("nobody else", x.look(7), 3);
    }

    @Sentence(of = "Terms 3", says = "all else of it go HOME, BREATH half of it;")
    static void theOthersGoHome(Due t) {
        for (int c = 0; c < 2; c++) {
            OldestDown x = threeAtTheEndOf(c, 31, 20, 1, 53);
            x.days(1);
            t.line(x, 4, 4, 1, 1, 15 * c);
            t.line(x, 5, 4, 2, 0, 15 * c);
            t.line(x, 6, 4, 2, 2, 15 * c);
            t.where(x, 0, 0, -1, 15);
            t.where(x, 2, 0, -1, 0);
            t.due("the CAPTIVE, HOME by peace", x.of(1, 3), 20);
            t.due("who beat them", x.of(3, 3), 43);
        }
    }

    @Sentence(of = "Terms 3", says = "all else of it go HOME, BREATH half of it;")
    static void thoseElsewhereStay(Due t) {
        OldestDown x = twoOfFourMeet();
        x.set(5, 0, 49);
        x.days(1);
        t.where(x, 0, 2, -1, 49);
        t.where(x, 1, 1, 4, 99);
        t.where(x, 3, 1, 5, 40);
    }

    @Sentence(of = "Terms 3", says = "of the other one there BREATH is 10 less (0 at least).")
    static void theOtherOneIsOutOfBreath(Due t) {
        OldestDown x = threeAtTheEndOf(0, 9, 10, 11, 29);
        x.days(1);
        t.where(x, 0, 1, 0, 0);
        t.where(x, 1, 1, 0, 0);
        t.where(x, 2, 1, 0, 1);
        t.where(x, 3, 2, -1, 29);
        OldestDown y = Due.war(0, 70, 9, 1, 70, 9);
        y.set(5, 0, 0);
        y.set(5, 1, 1);
        y.days(1);
        t.where(y, 0, 2, -1, 0);
        t.where(y, 1, 1, 9, 0);
    }

    @Sentence(of = "Terms 3", says = "Alike sums: all there have BREATH half of it, nothing else.")
    static void alikeSums(Due t) {
        for (int c = 0; c < 2; c++) {
            OldestDown x = threeAtTheEndOf(c, 31, 20, 40, 91);
            x.days(1);
            int[] halves = {15, 10, 20, 45};
            for (int m = 0; m < 4; m++) t.where(x, m, 1, 15 * c, halves[m]);
            t.due("calls alone", x.look(7), 4);
            t.due("WAR", x.look(2), 1);
        }
    }

    @Sentence(of = "Terms 3", says = "Alike sums: all there have BREATH half of it, nothing else.")
    static void alikeSumsOfThoseThere(Due t) {
        OldestDown y = twoOfFourMeet();
        y.set(5, 0, 50);
        y.days(1);
        t.where(y, 0, 1, 5, 25);
        t.where(y, 1, 1, 4, 99);
        t.where(y, 2, 1, 11, 99);
        t.where(y, 3, 1, 5, 25);
    }

    @Sentence(of = "Terms 3", says = "Alike sums: all there have BREATH half of it, nothing else.")
    static void alikeWithoutBreath(Due t) {
        OldestDown x = Due.war(0, 70, 9, 1, 70, 9);
        x.set(5, 0, 0);
        x.set(5, 1, 0);
        x.days(2);
        t.where(x, 0, 1, 9, 0);
        t.where(x, 1, 1, 9, 0);
    }

    // ---- (d)

    @Sentence(of = "Terms 3", says = "(d) A MAN of country 0 at CELL 15, of 1 at CELL 0, with nobody of the other one there: WAR is 0.")
    static void comesThrough(Due t) {
        OldestDown x = Due.war(0, 70, 7, 1, 20, 1);
        x.days(2);
        t.due("at CELL 14", x.look(2), 1);
        x.days(1);
        t.due("at CELL 15", x.look(2), 0);
        OldestDown y = Due.war(1, 70, 7, 0, 20, 1);
        y.days(2);
        t.due("at CELL 1", y.look(2), 1);
        y.days(1);
        t.due("at CELL 0", y.look(2), 0);
    }

    @Sentence(of = "Terms 3", says = "(d) A MAN of country 0 at CELL 15, of 1 at CELL 0,")
    static void notAtHisOwnEnd(Due t) {
        OldestDown x = Due.war(0, 70, 7, 1, 70, 7);
        Due.tell(x, 0, "step 0;");
        x.days(3);
        t.due("0 at CELL 0, 1 at CELL 15", x.look(2), 1);
    }

    @Sentence(of = "Terms 3", says = "with nobody of the other one there: WAR is 0.")
    static void somebodyIsThere(Due t) {
        OldestDown x = Due.war(0, 70, 9, 1, 70, 1);
        Due.tell(x, 0, "step 0 when country = 1;");
        x.days(2);
        t.where(x, 0, 1, 15, 25);
        t.due("alike at CELL 15", x.look(2), 1);
        x.set(5, 0, 26);
        x.days(1);
        t.due("the other one is CAPTIVE", x.look(2), 0);
        OldestDown y = Due.war(0, 70, 1, 1, 70, 9);
        Due.tell(y, 0, "step 0 when country = 0;");
        y.days(2);
        t.where(y, 1, 1, 0, 25);
        t.due("alike at CELL 0", y.look(2), 1);
        y.set(5, 1, 24);
        y.days(1);
        t.due("beaten at CELL 0", y.look(2), 1);
        t.due("the other one", y.of(1, 6), 2);
    }

    // ---- (e)

    @Sentence(of = "Terms 3", says = "(e) If DAY is a multiple of 7:")
    static void tellsOnEverySeventhDay(Due t) {
        OldestDown x = Due.war(0, 20, 1, 0, 20, 1);
        Due.tell(x, 0, "fade 0;");
        Due.tell(x, 1, "0 tells 1;");
        x.teach(0, 0);
        x.days(1);
        t.due("DAY 0", x.of(1, 4), 1);
        x.teach(0, 1);
        for (int day = 1; day < 14; day++) {
            x.days(1);
            t.due("DAY " + day, x.of(1, 4), day < 7 ? 1 : 3);
        }
        x.teach(0, 2);
        x.days(1);
        t.due("DAY 14", x.of(1, 4), 7);
    }

    @Sentence(of = "Terms 3", says = "MAN by MAN at HOME who tells others: each of them at HOME KNOWS all that he KNOWS, too")
    static void tellsAllThatHeKnows(Due t) {
        OldestDown x = Due.war(0, 20, 1, 1, 20, 1, 0, 20, 1, 0, 20, 1);
        Due.tell(x, 0, "fade 0;");
        Due.tell(x, 1, "0 tells 1 and 2;");
        x.teach(0, 1);
        x.teach(0, 6);
        x.teach(1, 7);
        x.teach(1, 1);
        x.days(1);
        t.due("he KNOWS no more", x.of(0, 4), 66);
        t.due("of the other COUNTRY", x.of(1, 4), 194);
        t.due("who KNEW nothing", x.of(2, 4), 66);
        t.due("who isn't told", x.of(3, 4), 0);
    }

    @Sentence(of = "Terms 3", says = "MAN by MAN at HOME who tells others: each of them at HOME KNOWS all that he KNOWS, too")
    static void tellsAtHomeAlone(Due t) {
        OldestDown x = Due.war(0, 80, 1, 0, 20, 1, 0, 20, 1);
        Due.tell(x, 0, "fade 0; step 0;");
        Due.tell(x, 1, "0 tells 1; 1 tells 0 and 2;");
        x.teach(0, 1);
        x.teach(1, 2);
        x.days(1);
        t.due("who was told IN THE FIELD", x.of(0, 4), 2);
        t.due("who was told by one IN THE FIELD", x.of(1, 4), 4);
        t.due("both at HOME", x.of(2, 4), 4);
    }

    @Sentence(of = "Terms 3", says = "MAN by MAN at HOME who tells others: each of them at HOME KNOWS all that he KNOWS, too")
    static void captivesNeitherTellNorAreTold(Due t) {
        OldestDown x = Due.war(0, 70, 9, 1, 70, 9, 0, 20, 1);
        x.set(5, 0, 40);
        Due.tell(x, 0, "fade 0; step 9 when day = 0; step 0;");
        Due.tell(x, 1, "0 tells 2; 2 tells 0;");
        x.teach(0, 1);
        x.teach(2, 2);
        x.days(1);
        t.due("CAPTIVE", x.of(0, 6), 2);
        t.due("was told", x.of(0, 4), 2);
        t.due("was told by him", x.of(2, 4), 4);
    }

    @Sentence(of = "Terms 3", says = "MAN by MAN at HOME who tells others: each of them at HOME KNOWS all that he KNOWS, too")
    static void whoIsBeatenHomeIsToldThatDay(Due t) {
        OldestDown x = threeAtTheEndOf(0, 31, 20, 40, 92);
        Due.tell(x, 0, "fade 0; step 0 when day < 7; step 0 when country = 0; step 9;");
        Due.tell(x, 1, "0 tells 2; 3 tells 0;");
        x.days(3);
        x.teach(0, 5);
        x.teach(3, 6);
        t.due("DAY", x.look(1), 7);
        for (int m = 0; m < 4; m++) x.set(5, m, m == 3 ? 99 : 20);
        x.days(1);
        t.due("beaten HOME, both", x.of(2, 4), 32);
        t.due("by one IN THE FIELD till peace", x.of(0, 4), 32);
    }

    @Sentence(of = "Terms 3", says = "(as all stand when it is his turn).")
    static void tellsWhatHeWasToldAhead(Due t) {
        OldestDown x = Due.war(0, 20, 1, 0, 20, 1, 0, 20, 1, 1, 20, 1);
        Due.tell(x, 0, "fade 0;");
        Due.tell(x, 1, "0 tells 1; 1 tells 2; 3 tells 0;");
        x.teach(0, 1);
        x.teach(1, 7);
        x.teach(3, 4);
        x.days(7);
        int[] first = {18, 130, 130, 16};
        for (int m = 0; m < 4; m++) t.due("KNOWS " + m + " behind DAY 6", x.of(m, 4), first[m]);
        x.days(1);
        int[] then = {18, 146, 146, 16};
        for (int m = 0; m < 4; m++) t.due("KNOWS " + m + " behind DAY 7", x.of(m, 4), then[m]);
    }

    // ---- (f)

    @Sentence(of = "Terms 3", says = "(f) MAN by MAN who KNOWS some: a DRAW of 1000:")
    static void drawsForWhoKnowsSome(Due t) {
        int s = 77;
        OldestDown x = Due.war(0, 20, 1, 0, 20, 1, 0, 20, 1);
        x.state(s);
        x.days(5);
        t.due("nobody KNOWS some", x.look(8), s);
        Due.tell(x, 0, "fade 0;");
        x.teach(0, 3);
        x.teach(0, 4);
        x.teach(2, 3);
        x.days(1);
        for (int i = 0; i < 2; i++) s = s * 1664525 + 1013904223;
        t.due("two KNOW some, fade is 0", x.look(8), s);
    }

    @Sentence(of = "Terms 3", says = "(f) MAN by MAN who KNOWS some: a DRAW of 1000:")
    static void drawsForAllWherever(Due t) {
        int s = 5;
        OldestDown x = Due.war(0, 70, 9, 1, 70, 9, 0, 20, 1);
        x.set(5, 0, 40);
        for (int m = 0; m < 3; m++) x.teach(m, m);
        Due.tell(x, 0, "fade 1000;");
        x.state(s);
        x.days(1);
        for (int i = 0; i < 3; i++) s = s * 1664525 + 1013904223;
        t.due("a CAPTIVE, one IN THE FIELD, one at HOME", x.look(8), s);
        for (int m = 0; m < 3; m++) t.due("KNOWS " + m, x.of(m, 4), 0);
        x.days(1);
        t.due("nobody KNOWS some", x.look(8), s);
    }

    @Sentence(of = "Terms 3", says = "(f) MAN by MAN who KNOWS some: a DRAW of 1000:")
    static void drawsManByMan(Due t) {
        // From STATE 0 the DRAWS of 1000 are 563, 577, 494, 947.
        OldestDown x = Due.war(1, 20, 1, 0, 20, 1, 0, 20, 1, 1, 20, 1, 0, 20, 1);
        for (int m : new int[] {0, 1, 3, 4}) x.teach(m, m);
        Due.tell(x, 0, "fade 570;");
        x.days(1);
        int[] dues = {0, 2, 0, 0, 16};
        for (int m = 0; m < 5; m++) t.due("KNOWS " + m, x.of(m, 4), dues[m]);
        t.line(x, 0, 0, 3, 0, 0);
        t.line(x, 1, 0, 3, 3, 3);
        t.due("lines", x.look(7), 2);
    }

    @Sentence(of = "Terms 3", says = "below fade he forgets the least FACT that he KNOWS.")
    static void belowFade(Due t) {
        // STATE 0 becomes 1013904223, its highest 24 bits 3960563, modulo 1000: 563
        int[] fades = {0, 562, 563, 564, 1000};
        for (int fade : fades) {
            OldestDown x = Due.war(0, 20, 1);
            x.teach(0, 5);
            x.teach(0, 3);
            Due.tell(x, 0, "fade " + fade + ";");
            x.days(1);
            t.due("KNOWS at fade " + fade, x.of(0, 4), fade > 563 ? 32 : 40);
            t.due("lines at fade " + fade, x.look(7), fade > 563 ? 1 : 0);
        }
    }

    @Sentence(of = "Terms 3", says = "below fade he forgets the least FACT that he KNOWS.")
    static void forgetsOneADay(Due t) {
        OldestDown x = Due.war(0, 20, 1, 1, 20, 1);
        Due.tell(x, 0, "fade 1000;");
        x.teach(1, 7);
        x.teach(1, 2);
        x.teach(1, 0);
        x.teach(0, 4);
        x.days(4);
        t.line(x, 0, 0, 3, 0, 4);
        t.line(x, 1, 0, 3, 1, 0);
        t.line(x, 2, 1, 3, 1, 2);
        t.line(x, 3, 2, 3, 1, 7);
        t.due("lines", x.look(7), 4);
    }

    // ---- (g)

    @Sentence(of = "Terms 3", says = "(g) Is in some COUNTRY the weight of all FACTS together that some of its MEN KNOW below KEEP, WAR is 0.")
    static void weighsBelowKeep(Due t) {
        OldestDown x = Due.men(0, 20, 1, 1, 20, 1);
        Due.tell(x, 0, "fade 0;");
        Due.tell(x, 2, "fact 2 weighs 40; fact 6 weighs 39;");
        x.teach(0, 2);
        x.teach(1, 6);
        x.set(0, 0, 39);
        x.days(1);
        t.due("39 and 40 at KEEP 39", x.look(2), 1);
        x.set(0, 0, 40);
        x.days(1);
        t.due("39 and 40 at KEEP 40", x.look(2), 0);
        OldestDown y = Due.men(0, 20, 1, 1, 20, 1);
        y.teach(1, 6);
        y.days(1);
        t.due("0 and 1 at KEEP 1", y.look(2), 0);
    }

    @Sentence(of = "Terms 3", says = "the weight of all FACTS together that some of its MEN KNOW below KEEP, WAR is 0.")
    static void factsOfAllTogether(Due t) {
        OldestDown x = Due.men(0, 20, 1, 1, 20, 1, 1, 20, 1);
        Due.tell(x, 0, "fade 0;");
        x.teach(0, 1);
        x.teach(0, 2);
        x.teach(1, 5);
        x.teach(2, 6);
        x.set(0, 0, 2);
        x.days(1);
        t.due("two FACTS of two MEN", x.look(2), 1);
        OldestDown y = Due.men(0, 20, 1, 1, 20, 1, 1, 20, 1);
        Due.tell(y, 0, "fade 0;");
        y.teach(0, 1);
        y.teach(0, 2);
        y.teach(1, 5);
        y.teach(2, 5);
        y.set(0, 0, 2);
        y.days(1);
        t.due("one FACT of two MEN weighs once", y.look(2), 0);
    }

    @Sentence(of = "Terms 3", says = "(g) Is in some COUNTRY the weight of all FACTS together that some of its MEN KNOW below KEEP, WAR is 0.")
    static void keepOfNothing(Due t) {
        OldestDown x = new OldestDown();
        x.set(0, 0, 0);
        x.days(1);
        t.due("without MEN at KEEP 0", x.look(2), 1);
        x.set(0, 0, 1);
        x.days(1);
        t.due("without MEN at KEEP 1", x.look(2), 0);
        OldestDown y = Due.men(0, 20, 1);
        y.teach(0, 0);
        Due.tell(y, 0, "fade 0;");
        y.days(1);
        t.due("one COUNTRY without MEN", y.look(2), 0);
        OldestDown z = Due.men(0, 20, 1, 1, 20, 1);
        z.teach(0, 0);
        z.teach(1, 1);
        Due.tell(z, 0, "fade 0;");
        Due.tell(z, 2, "fact 1 weighs 0;");
        z.days(1);
        t.due("a FACT that weighs 0", z.look(2), 0);
    }

    @Sentence(of = "Terms 3", says = "(g) Is in some COUNTRY the weight of all FACTS together that some of its MEN KNOW below KEEP, WAR is 0.")
    static void weighedBehindTellingAndForgetting(Due t) {
        OldestDown x = Due.men(0, 20, 1, 1, 20, 1);
        x.teach(0, 0);
        Due.tell(x, 0, "fade 0;");
        Due.tell(x, 1, "0 tells 1;");
        x.days(1);
        t.due("he is told in this DAY", x.look(2), 1);
        Due.tell(x, 0, "fade 1000 when country = 1; fade 0;");
        x.days(1);
        t.due("he forgets in this DAY", x.look(2), 0);
    }

    @Sentence(of = "Terms 3", says = "(g) Is in some COUNTRY the weight of all FACTS together that some of its MEN KNOW below KEEP, WAR is 0.")
    static void captivesKnowForTheirCountry(Due t) {
        OldestDown x = Due.men(0, 70, 9, 1, 70, 9);
        x.set(5, 0, 40);
        x.teach(0, 1);
        x.teach(1, 2);
        Due.tell(x, 0, "fade 0; step 9 when day = 0; step 0;");
        x.days(1);
        t.due("CAPTIVE", x.of(0, 6), 2);
        t.due("WAR", x.look(2), 1);
    }

    @Sentence(of = "Terms 3", says = "MAN by MAN a CAPTIVE comes HOME if DAY is TEA at least behind that on which he became one.")
    static void comesHomeBehindTea(Due t) {
        for (int tea = 0; tea < 5; tea++) {
            OldestDown x = Due.war(0, 70, 9, 1, 70, 9);
            Due.tell(x, 0, "step 9 when day = 0; step 0;");
            x.set(5, 0, 40);
            x.set(2, 0, tea);
            for (int day = 0; day <= tea; day++) {
                t.due("at HOME ahead of DAY " + day + " at TEA " + tea, x.of(0, 6), day == 0 ? 0 : 2);
                x.days(1);
            }
            t.where(x, 0, 0, -1, 40);
            t.line(x, 3, tea, 5, 0, 0);
            x.days(1);
            t.line(x, 4, tea + 1, 0, 0, 0);
        }
    }

    @Sentence(of = "Terms 3", says = "MAN by MAN a CAPTIVE comes HOME if DAY is TEA at least behind that on which he became one.")
    static void teaAsItIsNow(Due t) {
        OldestDown x = Due.war(0, 70, 9, 1, 70, 9);
        Due.tell(x, 0, "step 9 when day = 0; step 0;");
        x.set(5, 0, 40);
        x.set(2, 0, 50);
        x.days(20);
        t.due("kept", x.of(0, 6), 2);
        x.set(2, 0, 4);
        x.days(1);
        t.due("kept long enough", x.of(0, 6), 0);
        t.line(x, 3, 20, 5, 0, 0);
    }

    @Sentence(of = "Terms 3", says = "Has WAR become 0 in this DAY, all come HOME (one line of THE BOOK: 4).")
    static void allComeHome(Due t) {
        OldestDown x = Due.war(0, 70, 9, 1, 70, 9, 0, 65, 1);
        x.set(5, 0, 40);
        x.set(5, 1, 99);
        Due.tell(x, 0, "step 0 when age = 65;");
        x.days(1);
        t.where(x, 0, 2, -1, 40);
        x.set(5, 1, 99);
        // 1 beats 2 at CELL 0: two CAPTIVES, neither kept long enough.
        x.days(1);
        t.due("WAR", x.look(2), 0);
        t.where(x, 0, 0, -1, 40);
        t.where(x, 1, 0, -1, 89);
        t.where(x, 2, 0, -1, 50);
        t.line(x, 4, 1, 1, 2, 0);
        t.line(x, 5, 1, 4, -1, 0);
        t.due("one line for all", x.look(7), 6);
        x.days(1);
        t.due("none later", x.look(7), 6);
    }

    @Sentence(of = "Terms 3", says = "Has WAR become 0 in this DAY, all come HOME (one line of THE BOOK: 4).")
    static void peaceTwice(Due t) {
        // By who comes through and by what is forgotten, in one DAY.
        OldestDown x = Due.men(0, 70, 9, 1, 20, 9);
        x.teach(0, 0);
        x.teach(1, 0);
        Due.tell(x, 0, "fade 1000 when day = 1; fade 0;");
        x.days(2);
        t.due("WAR", x.look(2), 0);
        t.line(x, 1, 1, 3, 0, 0);
        t.line(x, 2, 1, 3, 1, 0);
        t.line(x, 3, 1, 4, -1, 0);
        t.due("lines", x.look(7), 4);
    }

    // ---- (h)

    @Sentence(of = "Terms 3", says = "(h) DAY is one more.")
    static void dayIsOneMore(Due t) {
        OldestDown x = Due.war();
        for (int day = 0; day < 5; day++) {
            t.due("DAY", x.look(1), day);
            x.days(1);
        }
        x.days(60);
        t.due("DAY", x.look(1), 65);
        OldestDown y = new OldestDown();
        y.days(3);
        t.due("DAY in peace", y.look(1), 3);
    }

    @Sentence(of = "Terms 3", says = "(All that THE LAW tells is asked when it is the MAN's turn.)")
    static void askedAtHisTurn(Due t) {
        OldestDown x = Due.war(0, 70, 4, 1, 70, 4);
        Due.tell(x, 0, "nap 30 when breath < 80 and country = 0; nap 30 * hill; step 1 + breath / 99;");
        x.set(4, 13, 1);
        x.days(2);
        t.where(x, 0, 1, 1, 80);
        t.where(x, 1, 1, 14, 50);
        x.set(5, 1, 99);
        x.days(1);
        t.where(x, 1, 1, 13, 99);
        x.set(5, 1, 60);
        x.days(1);
        t.where(x, 1, 1, 13, 90);
    }

    @Sentence(of = "Terms 3", says = "(All that THE LAW tells is asked when it is the MAN's turn.)")
    static void calledAtCellZeroOfTheDay(Due t) {
        // Called in this DAY, he is asked for his step at CELL 15, not at HOME.
        OldestDown x = Due.war(1, 70, 1);
        Due.tell(x, 0, "step 3 when cell = 15; step 2 when cell = 12; step 0;");
        x.days(1);
        t.where(x, 0, 1, 12, 50);
        // Asked once a DAY, not at each CELL.
        x.days(1);
        t.where(x, 0, 1, 10, 50);
    }

    @Sentence(of = "Terms 3", says = "(All that THE LAW tells is asked when it is the MAN's turn.)")
    static void fadeAsHeStandsThen(Due t) {
        // Told a second FACT by (e) and out of BREATH by (c), he is asked for his fade.
        OldestDown x = Due.war(0, 20, 1, 0, 20, 1);
        x.teach(0, 4);
        x.teach(1, 6);
        Due.tell(x, 1, "0 tells 1;");
        Due.tell(x, 0, "fade 1000 when facts = 2; fade 0;");
        x.days(1);
        t.due("he KNEW two", x.of(1, 4), 64);
        OldestDown y = Due.war(0, 70, 9, 1, 70, 9);
        y.set(5, 0, 40);
        y.teach(0, 1);
        y.teach(1, 1);
        Due.tell(y, 0, "fade 1000 when breath = 40 and cell = country * 9; fade 0;");
        y.days(1);
        t.due("the CAPTIVE, no CELL", y.of(0, 4), 0);
        t.due("the other one, 10 less", y.of(1, 4), 0);
    }

    // ---- THE BOOK

    @Sentence(of = "Terms 3", says = {"THE BOOK's lines in this order, 5 ahead of 4.",
        "DAY, what (0 called, 1 CAPTIVE, 2 beaten HOME, 3 forgot, 4 peace, 5 back from tea), the MAN (4: NONE), number (0, 1, 2: the CELL; 3: the FACT; else 0)."})
    static void allLinesOfOneDay(Due t) {
        OldestDown x = threeAtTheEndOf(0, 31, 20, 40, 99);
        x.man(0, 70, 1);
        x.set(5, 4, 2);
        x.set(3, 0, 4);
        x.set(2, 0, 0);
        x.teach(3, 5);
        x.teach(0, 6);
        Due.tell(x, 0, "step 0 when country = 0; fade 1000;");
        x.days(1);
        t.line(x, 4, 4, 0, 4, 0);
        t.line(x, 5, 4, 1, 4, 0);
        t.line(x, 6, 4, 2, 0, 0);
        t.line(x, 7, 4, 2, 1, 0);
        t.line(x, 8, 4, 2, 2, 0);
        t.line(x, 9, 4, 3, 0, 6);
        t.line(x, 10, 4, 3, 3, 5);
        t.line(x, 11, 4, 5, 4, 0);
        t.line(x, 12, 4, 4, -1, 0);
        t.due("lines", x.look(7), 13);
    }

    @Sentence(of = "Terms 3", says = "number (0, 1, 2: the CELL; 3: the FACT; else 0).")
    static void numbersOfLines(Due t) {
        OldestDown x = Due.war(0, 70, 9, 1, 70, 9, 0, 90, 1);
        x.set(3, 0, 1);
        Due.tell(x, 0, "call 1 when age = 70; call 2; step 9;");
        x.set(5, 2, 10);
        x.set(2, 0, 1);
        x.days(1);
        t.line(x, 0, 0, 0, 2, 0);
        t.line(x, 1, 0, 0, 1, 15);
        // MAN 1 goes first, 9 CELLS down; 2 comes to him.
        t.line(x, 2, 0, 1, 2, 6);
        x.days(1);
        t.line(x, 3, 1, 0, 0, 0);
        t.line(x, 4, 1, 1, 1, 6);
        OldestDown y = Due.war(0, 90, 1, 0, 80, 1, 1, 70, 1);
        Due.tell(y, 0, "step 5 when country = 1 or cell = 0; step 0;");
        y.set(5, 0, 20);
        y.set(5, 1, 20);
        y.days(2);
        t.line(y, 2, 1, 0, 1, 0);
        t.line(y, 3, 1, 1, 1, 5);
        t.line(y, 4, 1, 2, 0, 5);
    }

    @Sentence(of = "Terms 3", says = "THE BOOK (150 lines; no more then):")
    static void fullBook(Due t) {
        OldestDown x = Due.war();
        for (int m = 0; m < 12; m++) x.man(0, 20, 1);
        Due.tell(x, 0, "fade 1000;");
        for (int f = 0; f < 7; f++) for (int m = 0; m < 12; m++) x.teach(m, f);
        x.days(7);
        t.due("lines", x.look(7), 84);
        for (int f = 0; f < 7; f++) for (int m = 0; m < 12; m++) x.teach(m, f);
        x.days(5);
        t.due("lines", x.look(7), 144);
        x.days(1);
        t.due("the last ones", x.look(7), 150);
        t.line(x, 149, 12, 3, 5, 5);
        t.due("no 151st", x.book(150, 0), -2);
        x.days(1);
        t.due("no more", x.look(7), 150);
        t.line(x, 149, 12, 3, 5, 5);
        for (int m = 0; m < 12; m++) t.due("all goes on", x.of(m, 4), 0);
    }

    // ---- to TEACH, to SEND

    @Sentence(of = "Terms 3", says = "To TEACH a MAN a FACT;")
    static void teaches(Due t) {
        OldestDown x = Due.men(0, 60, 3, 0, 61, 3);
        t.due("FACT 7", x.teach(1, 7), true);
        t.due("FACT 0", x.teach(1, 0), true);
        t.due("he KNOWS", x.of(1, 4), 129);
        t.due("the other KNOWS", x.of(0, 4), 0);
    }

    /** MAN 0 (40) of COUNTRY 0 at CELL 2, 3 of COUNTRY 1 at CELL 13, 1 (40), 2 (41) and 4 of COUNTRY 1 at HOME. */
    static OldestDown withFront() {
        OldestDown x = Due.war(0, 40, 2, 0, 40, 3, 0, 41, 3, 1, 70, 2, 1, 90, 2);
        x.set(3, 0, 1);
        x.set(3, 1, 1);
        Due.tell(x, 0, "call 100 - age when country = 1; call 1 when age = 40;");
        x.days(1);
        x.set(6, 0, 30);
        return x;
    }

    private static void sends(Due t, OldestDown x, int old, int young, int coin, boolean due) {
        String was = Due.all(x);
        t.due("send " + old + " for " + young + " at " + coin, x.send(old, young, coin), due);
        if (!due) t.same("refused", Due.all(x), was);
    }

    @Sentence(of = "Terms 3", says = {"to SEND for one: a MAN at HOME goes for one of his COUNTRY IN THE FIELD who is younger than he:",
        "he is there, that one at HOME,"})
    static void sendsTheOlderOne(Due t) {
        OldestDown x = withFront();
        sends(t, x, 2, 0, 0, true);
        t.where(x, 2, 1, 2, 50);
        t.where(x, 0, 0, -1, 50);
        t.due("no line of THE BOOK", x.look(7), 2);
        x.days(1);
        t.where(x, 2, 1, 5, 50);
        // They go back and forth as the AGES allow.
        sends(t, x, 0, 2, 0, false);
    }

    @Sentence(of = "Terms 3", says = "a MAN at HOME goes for one of his COUNTRY IN THE FIELD who is younger than he:")
    static void whoMustBeAtHome(Due t) {
        OldestDown x = Due.war(0, 70, 9, 0, 71, 1, 1, 70, 9);
        Due.tell(x, 0, "step 0 when age = 71;");
        x.days(2);
        sends(t, x, 1, 0, 0, false);
        t.due("both IN THE FIELD", x.country(0, 0), 2);
        // 1 (71) beaten and CAPTIVE at CELL 9; 0 (70) is called.
        OldestDown y = Due.war(0, 70, 1, 0, 71, 9, 1, 70, 9);
        y.set(5, 1, 40);
        y.days(2);
        t.due("CAPTIVE", y.of(1, 6), 2);
        t.due("IN THE FIELD", y.of(0, 6), 1);
        sends(t, y, 1, 0, 0, false);
    }

    @Sentence(of = "Terms 3", says = "a MAN at HOME goes for one of his COUNTRY IN THE FIELD who is younger than he:")
    static void whomMustBeInTheField(Due t) {
        OldestDown x = withFront();
        sends(t, x, 2, 1, 0, false);
        sends(t, x, 2, 2, 0, false);
        OldestDown y = Due.war(0, 70, 9, 0, 71, 1, 1, 70, 9);
        Due.tell(y, 0, "call 1 when age = 70; call 0; step 9 when day = 0; step 0;");
        y.set(3, 0, 1);
        y.set(5, 0, 40);
        y.days(1);
        t.due("CAPTIVE", y.of(0, 6), 2);
        t.due("at HOME", y.of(1, 6), 0);
        sends(t, y, 1, 0, 0, false);
    }

    @Sentence(of = "Terms 3", says = "a MAN at HOME goes for one of his COUNTRY IN THE FIELD who is younger than he:")
    static void whomMustBeOfHisCountry(Due t) {
        OldestDown x = withFront();
        sends(t, x, 4, 0, 0, false);
        sends(t, x, 4, 3, 0, true);
    }

    @Sentence(of = "Terms 3", says = "a MAN at HOME goes for one of his COUNTRY IN THE FIELD who is younger than he:")
    static void whomMustBeYounger(Due t) {
        sends(t, withFront(), 1, 0, 0, false);
        sends(t, withFront(), 0, 0, 0, false);
        for (int younger : new int[] {0, 1}) {
            OldestDown x = withFront();
            sends(t, x, 2, 0, 0, true);
            sends(t, x, younger, 2, 0, false);
        }
    }

    @Sentence(of = "Terms 3", says = "who pays COIN n to him (0 .. what he has;")
    static void paysWhatHeHasAtMost(Due t) {
        for (int coin : new int[] {-1, 31, Integer.MIN_VALUE, Integer.MAX_VALUE}) {
            sends(t, withFront(), 2, 0, coin, false);
        }
        OldestDown x = withFront();
        sends(t, x, 2, 0, 30, true);
        t.due("who paid all", x.of(0, 5), 0);
        t.due("who was paid", x.of(2, 5), 30);
        OldestDown y = withFront();
        sends(t, y, 2, 0, 12, true);
        t.due("who paid some", y.of(0, 5), 18);
        t.due("who was paid", y.of(2, 5), 12);
        OldestDown z = withFront();
        sends(t, z, 2, 0, 0, true);
        t.due("who paid none", z.of(0, 5), 30);
    }

    @Sentence(of = "Terms 3", says = "999 at most for who gets it).")
    static void hasNoMoreThanTheMostCoin(Due t) {
        int[] had = {969, 970, 999};
        for (int has : had) {
            OldestDown x = withFront();
            x.set(6, 2, has);
            sends(t, x, 2, 0, 30, true);
            t.due("who had " + has, x.of(2, 5), 999);
            t.due("who paid", x.of(0, 5), 0);
        }
    }
}
