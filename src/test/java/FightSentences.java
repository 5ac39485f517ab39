/** Terms 3: (c) and (d), who is beaten and who comes through. */
final class FightSentences {
    // ---- (c)

    /** MEN 0 (90), 1 (80), 2 (80) of a COUNTRY stand at its end; 3 (70) of the other one comes to them on DAY 4. */
    static OldestDown threeAtTheEndOf(int c, int... breaths) {
        OldestDown x = Due.war(c, 90, 1, c, 80, 1, c, 80, 1, 1 - c, 70, 9);
        x.set(3, c, 3);
        Due.tell(x, 0, "step 0;");
        x.days(3);
        Due.tell(x, 0, "step 0 when country = " + c + ";");
        x.days(1);
        for (int m = 0; m < 4; m++) x.set(5, m, breaths[m]);
        return x;
    }

    @Sentence(of = "Terms 3", says = "(c) CELL by CELL in which both are: the COUNTRY with the lesser sum of BREATH there is beaten:")
    static void theLesserSumIsBeaten(Due t) {
        for (int c = 0; c < 2; c++) {
            OldestDown x = threeAtTheEndOf(c, 31, 20, 40, 92);
            x.days(1);
            t.due("91 against 92: the three are beaten", x.country(c, 0), 0);
            OldestDown y = threeAtTheEndOf(c, 31, 20, 40, 90);
            y.days(1);
            t.due("91 against 90: the one is beaten", y.of(3, 6), 2);
            t.due("the three stay", y.country(c, 0), 3);
        }
    }

    /** The next DAY MAN 0 goes to CELL 5, 3 comes to him; 1 goes to CELL 4, 2 to CELL 11. */
    private static OldestDown twoOfFourMeet() {
        OldestDown x = Due.war(0, 90, 9, 0, 80, 2, 1, 90, 2, 1, 80, 9);
        Due.tell(x, 0, "step 5 when country = 0 and age = 90; step 5 when country = 1 and age = 80;"
            + "step 5 when country = 0 and day < 2; step 4 when day > 1; step 0;");
        Due.tell(x, 3, "on 0 rest 1; on 0 rest 0; on 1 rest 0;");
        x.days(2);
        int[] breaths = {60, 99, 99, 50};
        for (int m = 0; m < 4; m++) x.set(5, m, breaths[m]);
        return x;
    }

    @Sentence(of = "Terms 3", says = "(c) CELL by CELL in which both are: the COUNTRY with the lesser sum of BREATH there is beaten:")
    static void onlyThoseThereFight(Due t) {
        OldestDown x = twoOfFourMeet();
        x.days(1);
        t.where(x, 0, 1, 5, 50);
        t.where(x, 1, 1, 4, 99);
        t.where(x, 2, 1, 11, 99);
        t.where(x, 3, 2, -1, 50);
        t.line(x, 4, 2, 1, 3, 5);
        t.due("lines", x.look(7), 5);
    }

    @Sentence(of = "Terms 3", says = "its youngest one there (of several the least) is CAPTIVE,")
    static void theYoungestIsCaptive(Due t) {
        OldestDown x = threeAtTheEndOf(0, 31, 20, 40, 92);
        x.days(1);
        t.line(x, 4, 4, 1, 1, 0);
        OldestDown y = Due.war(0, 90, 1, 0, 80, 1, 0, 79, 1, 1, 70, 9);
        y.set(3, 0, 3);
        Due.tell(y, 0, "step 9 when country = 1 and day > 2; step 0;");
        y.set(5, 3, 99);
        for (int m = 0; m < 3; m++) y.set(5, m, 11);
        y.days(5);
        t.line(y, 4, 4, 1, 2, 0);
    }

    @Sentence(of = "Terms 3", says = "its youngest one there (of several the least) is CAPTIVE,")
    static void theCaptiveKeepsHisBreath(Due t) {
        OldestDown x = Due.war(0, 70, 9, 1, 70, 9);
        x.set(5, 0, 33);
        x.days(1);
        t.where(x, 0, 2, -1, 33);
        t.due("nobody else", x.look(7), 3);
    }

    @Sentence(of = "Terms 3", says = "all else of it go HOME, BREATH half of it;")
    static void theOthersGoHome(Due t) {
        for (int c = 0; c < 2; c++) {
            OldestDown x = threeAtTheEndOf(c, 31, 20, 1, 53);
            x.days(1);
            t.line(x, 4, 4, 1, 1, 15 * c);
            t.line(x, 5, 4, 2, 0, 15 * c);
            t.line(x, 6, 4, 2, 2, 15 * c);
            t.where(x, 0, 0, -1, 15);
            t.where(x, 2, 0, -1, 0);
            t.due("the CAPTIVE, HOME by peace", x.of(1, 3), 20);
            t.due("who beat them", x.of(3, 3), 43);
        }
    }

    @Sentence(of = "Terms 3", says = "all else of it go HOME, BREATH half of it;")
    static void thoseElsewhereStay(Due t) {
        OldestDown x = twoOfFourMeet();
        x.set(5, 0, 49);
        x.days(1);
        t.where(x, 0, 2, -1, 49);
        t.where(x, 1, 1, 4, 99);
        t.where(x, 3, 1, 5, 40);
    }

    @Sentence(of = "Terms 3", says = "of the other one there BREATH is 10 less (0 at least).")
    static void theOtherOneIsOutOfBreath(Due t) {
        OldestDown x = threeAtTheEndOf(0, 9, 10, 11, 29);
        x.days(1);
        t.where(x, 0, 1, 0, 0);
        t.where(x, 1, 1, 0, 0);
        t.where(x, 2, 1, 0, 1);
        t.where(x, 3, 2, -1, 29);
        OldestDown y = Due.war(0, 70, 9, 1, 70, 9);
        y.set(5, 0, 0);
        y.set(5, 1, 1);
        y.days(1);
        t.where(y, 0, 2, -1, 0);
        t.where(y, 1, 1, 9, 0);
    }

    @Sentence(of = "Terms 3", says = "Alike sums: all there have BREATH half of it, nothing else.")
    static void alikeSums(Due t) {
        for (int c = 0; c < 2; c++) {
            OldestDown x = threeAtTheEndOf(c, 31, 20, 40, 91);
            x.days(1);
            int[] halves = {15, 10, 20, 45};
            for (int m = 0; m < 4; m++) t.where(x, m, 1, 15 * c, halves[m]);
            t.due("calls alone", x.look(7), 4);
            t.due("WAR", x.look(2), 1);
        }
    }

    @Sentence(of = "Terms 3", says = "Alike sums: all there have BREATH half of it, nothing else.")
    static void alikeSumsOfThoseThere(Due t) {
        OldestDown y = twoOfFourMeet();
        y.set(5, 0, 50);
        y.days(1);
        t.where(y, 0, 1, 5, 25);
        t.where(y, 1, 1, 4, 99);
        t.where(y, 2, 1, 11, 99);
        t.where(y, 3, 1, 5, 25);
    }

    @Sentence(of = "Terms 3", says = "Alike sums: all there have BREATH half of it, nothing else.")
    static void alikeWithoutBreath(Due t) {
        OldestDown x = Due.war(0, 70, 9, 1, 70, 9);
        x.set(5, 0, 0);
        x.set(5, 1, 0);
        x.days(2);
        t.where(x, 0, 1, 9, 0);
        t.where(x, 1, 1, 9, 0);
    }

    // ---- (d)

    @Sentence(of = "Terms 3", says = "(d) A MAN of country 0 at CELL 15, of 1 at CELL 0, with nobody of the other one there: WAR is 0.")
    static void comesThrough(Due t) {
        OldestDown x = Due.war(0, 70, 7, 1, 20, 1);
        x.days(2);
        t.due("at CELL 14", x.look(2), 1);
        x.days(1);
        t.due("at CELL 15", x.look(2), 0);
        OldestDown y = Due.war(1, 70, 7, 0, 20, 1);
        y.days(2);
        t.due("at CELL 1", y.look(2), 1);
        y.days(1);
        t.due("at CELL 0", y.look(2), 0);
    }

    @Sentence(of = "Terms 3", says = "(d) A MAN of country 0 at CELL 15, of 1 at CELL 0,")
    static void notAtHisOwnEnd(Due t) {
        OldestDown x = Due.war(0, 70, 7, 1, 70, 7);
        Due.tell(x, 0, "step 0;");
        x.days(3);
        t.due("0 at CELL 0, 1 at CELL 15", x.look(2), 1);
    }

    @Sentence(of = "Terms 3", says = "with nobody of the other one there: WAR is 0.")
    static void somebodyIsThere(Due t) {
        OldestDown x = Due.war(0, 70, 9, 1, 70, 1);
        Due.tell(x, 0, "step 0 when country = 1;");
        x.days(2);
        t.where(x, 0, 1, 15, 25);
        t.due("alike at CELL 15", x.look(2), 1);
        x.set(5, 0, 26);
        x.days(1);
        t.due("the other one is CAPTIVE", x.look(2), 0);
        OldestDown y = Due.war(0, 70, 1, 1, 70, 9);
        Due.tell(y, 0, "step 0 when country = 0;");
        y.days(2);
        t.where(y, 1, 1, 0, 25);
        t.due("alike at CELL 0", y.look(2), 1);
        y.set(5, 1, 24);
        y.days(1);
        t.due("beaten at CELL 0", y.look(2), 1);
        t.due("the other one", y.of(1, 6), 2);
    }
}
