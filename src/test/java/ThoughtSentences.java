/** Terms 4: LASTS, SOONEST and FROM, thought in DAYS that nobody lives. */
final class ThoughtSentences {
    private static void lasting(Due t, OldestDown x, int... dues) {
        for (int what = 0; what < 4; what++) t.due("lasts(" + what + ")", x.lasts(what), dues[what]);
    }

    @Sentence(of = "Terms 4", says = "IN THOUGHT (nothing of it stays;")
    static void nothingStays(Due t) {
        OldestDown x = Due.war(0, 70, 9, 1, 70, 9, 1, 30, 1);
        x.set(5, 0, 40);
        x.teach(0, 3);
        Due.tell(x, 1, "0 tells 2;");
        x.state(4711);
        x.teach(1, 3);
        String was = Due.all(x);
        for (int i = 0; i < 2; i++) {
            x.lasts(i);
            x.soonest(i, 0);
            x.from(i);
        }
        x.hears(3);
        x.knees(3, 2);
        x.march(0, 5, 5, 0);
        x.stands(0, 0);
        x.forgets(0, 60);
        x.last();
        x.treaty(0);
        t.same("behind thought", Due.all(x), was);
        t.due("what can be undone", x.look(14), 1);
        t.due("undo", x.undo(), true);
        t.due("he KNOWS", x.of(1, 4), 0);
    }

    @Sentence(of = "Terms 4", says = "no DRAWS: nobody forgets).")
    static void nobodyForgets(Due t) {
        OldestDown x = Due.men(0, 80, 5, 1, 20, 5);
        x.teach(0, 0);
        x.teach(1, 0);
        Due.tell(x, 0, "fade 1000;");
        lasting(t, x, 3, 0, 50, 50);
        t.due("no DRAWS", x.look(8), 0);
        x.days(1);
        t.due("awake they forget", x.look(2), 0);
    }

    @Sentence(of = "Terms 4", says = "no DRAWS: nobody forgets).")
    static void butTheyAreTold(Due t) {
        OldestDown x = Due.men(0, 20, 5, 1, 20, 5);
        x.teach(0, 0);
        x.teach(0, 1);
        x.teach(1, 2);
        x.set(0, 0, 2);
        t.due("one COUNTRY KNOWS too little", x.lasts(0), 1);
        Due.tell(x, 1, "0 tells 1;");
        t.due("he is told", x.lasts(0), -1);
        t.due("not in truth", x.of(1, 4), 4);
    }

    @Sentence(of = "Terms 4", says = "LASTS: how many DAYS until WAR is 0")
    static void lasts(Due t) {
        OldestDown x = Due.war(0, 80, 4, 1, 20, 1, 1, 20, 1);
        x.set(5, 2, 7);
        lasting(t, x, 4, 0, 50, 57);
        x.set(4, 4, 1);
        // 3 (one left ahead of the HILL), 6, 10, 14, 15
        lasting(t, x, 5, 0, 50, 57);
        Due.tell(x, 3, "on 1 rest 0;");
        lasting(t, x, 6, 0, 60, 57);
        x.days(3);
        lasting(t, x, 3, 0, 60, 57);
        x.days(3);
        t.due("it was so", x.look(2), 0);
    }

    @Sentence(of = "Terms 4", says = "(99 at most; 0: it is),")
    static void lastsNinetyNineAtMost(Due t) {
        OldestDown x = Due.war(0, 80, 4);
        Due.tell(x, 0, "step 1 when day > 83; step 0;");
        lasting(t, x, 99, 0, 50, 0);
        Due.tell(x, 0, "step 1 when day > 84; step 0;");
        lasting(t, x, -1, 0, 50, 0);
        x.days(1);
        lasting(t, x, 99, 0, 50, 0);
    }

    @Sentence(of = "Terms 4", says = "(99 at most; 0: it is),")
    static void lastsNoDay(Due t) {
        OldestDown x = new OldestDown();
        lasting(t, x, 1, 0, 0, 0);
        x.days(1);
        lasting(t, x, 0, 0, 0, 0);
        x.man(1, 50, 5);
        x.set(5, 0, 33);
        lasting(t, x, 0, 0, 0, 33);
    }

    @Sentence(of = "Terms 4", says = "how many are made CAPTIVES in these DAYS,")
    static void captivesOfTheseDays(Due t) {
        OldestDown x = Due.war(0, 70, 9, 1, 70, 9);
        x.set(5, 0, 40);
        lasting(t, x, 2, 1, 40, 40);
        x.days(1);
        t.due("he is one now", x.of(0, 6), 2);
        lasting(t, x, 1, 0, 40, 40);
        OldestDown y = Due.war(0, 70, 9, 1, 70, 9);
        y.set(5, 0, 40);
        y.set(2, 0, 1);
        // He is back the DAY behind each fight and called again, on DAYS 0, 2, 4, 6, 8; on DAY 10 both have 40.
        Due.tell(y, 0, "nap 40 when country = 1 and day > 0 and day < 2; step 9 when day < 1; step 9 when country = 0; step 0;");
        lasting(t, y, -1, 5, 0, 0);
    }

    @Sentence(of = "Terms 4", says = "of each COUNTRY BREATH in all then.")
    static void breathInAllThen(Due t) {
        OldestDown x = Due.war(0, 80, 4, 0, 20, 4, 1, 20, 1, 1, 20, 1, 1, 20, 1);
        x.set(5, 1, 11);
        x.set(5, 3, 7);
        x.set(5, 4, 0);
        lasting(t, x, 4, 0, 61, 57);
        Due.tell(x, 0, "nap 1 when day < 200;");
        lasting(t, x, -1, 0, 110, 57);
        x.days(1);
        x.set(5, 0, 0);
        Due.tell(x, 0, "nap 1 when day < 30; step 0;");
        lasting(t, x, -1, 0, 40, 57);
    }

    private static void soon(Due t, OldestDown x, int c, int man, int days) {
        t.due("soonest(" + c + ", 0)", x.soonest(c, 0), man);
        t.due("soonest(" + c + ", 1)", x.soonest(c, 1), days);
    }

    @Sentence(of = "Terms 4", says = "SOONEST of a COUNTRY: which one of it at HOME")
    static void soonestOfThoseAtHome(Due t) {
        OldestDown x = Due.war(0, 90, 1, 0, 20, 5);
        x.set(3, 0, 1);
        t.due("LASTS", x.lasts(0), 15);
        soon(t, x, 0, 1, 3);
        x.days(1);
        soon(t, x, 0, 1, 3);
        t.due("LASTS", x.lasts(0), 14);
        OldestDown y = Due.war(0, 70, 9, 1, 70, 9, 0, 20, 1);
        y.set(5, 0, 40);
        y.set(2, 0, 99);
        Due.tell(y, 0, "step 9 when country = 0; step 9 when day = 0; step 0;");
        y.days(1);
        t.due("CAPTIVE", y.of(0, 6), 2);
        y.set(5, 0, 99);
        // Not 0, who is no longer at HOME; 2 beats the other one at CELL 9 and goes on.
        soon(t, y, 0, 2, 2);
    }

    @Sentence(of = "Terms 4", says = "(whatever his call), if he were IN THE FIELD from now on")
    static void soonestWhateverHisCall(Due t) {
        OldestDown x = Due.war(0, 20, 3, 0, 59, 8, 1, 20, 1);
        t.due("LASTS", x.lasts(0), -1);
        soon(t, x, 0, 1, 2);
        Due.tell(x, 0, "call 0;");
        soon(t, x, 0, 1, 2);
        x.set(3, 0, 0);
        soon(t, x, 0, 1, 2);
    }

    @Sentence(of = "Terms 4", says = "from now on (at CELL 0 or 15), would make LASTS least:")
    static void soonestFromItsOwnEnd(Due t) {
        OldestDown x = Due.war(0, 20, 3, 0, 20, 8, 0, 20, 7, 1, 30, 5, 1, 30, 7, 1, 30, 9);
        soon(t, x, 0, 1, 2);
        soon(t, x, 1, 5, 2);
        for (int cell = 9; cell < 13; cell++) x.set(4, cell, 1);
        // Up by 8: CELLS 8, 12, 15; down by 7: 11, 6, 0.
        soon(t, x, 0, 1, 3);
        soon(t, x, 1, 4, 3);
    }

    @Sentence(of = "Terms 4", says = "would make LASTS least: of several the least MAN; that.")
    static void soonestOfSeveral(Due t) {
        OldestDown x = Due.war(0, 20, 7, 0, 20, 8, 0, 50, 9, 1, 50, 8, 1, 20, 8);
        soon(t, x, 0, 1, 2);
        soon(t, x, 1, 3, 2);
    }

    @Sentence(of = "Terms 4", says = "FROM: AGES 0, 10 .. 120 from which on alone call holds (others: 0), all else by THE LAW:")
    static void fromAgesOn(Due t) {
        OldestDown x = Due.war(0, 80, 1, 0, 70, 9);
        x.set(3, 0, 1);
        Due.tell(x, 0, "call 120 - age;");
        // From 70 on the one of 70, who goes 9, has the greatest call.
        t.due("from(0)", x.from(0), 70);
        t.due("from(1)", x.from(1), 2);
        Due.tell(x, 0, "call age;");
        t.due("from(0)", x.from(0), 80);
        t.due("from(1)", x.from(1), 15);
        Due.tell(x, 0, "call 120 - age; step 9 when age = 80; step 1;");
        t.due("from(0), who is called else stands in the way", x.from(0), 80);
        t.due("from(1)", x.from(1), 2);
    }

    @Sentence(of = "Terms 4", says = "FROM: AGES 0, 10 .. 120 from which on alone call holds (others: 0), all else by THE LAW:")
    static void fromTheLeastAndTheMost(Due t) {
        OldestDown x = Due.war(1, 9, 9);
        t.due("call by THE LAW is 0", x.from(0), -1);
        Due.tell(x, 0, "call 1;");
        t.due("from(0)", x.from(0), 0);
        t.due("from(1)", x.from(1), 2);
        OldestDown y = Due.war(1, 120, 9);
        t.due("from(0)", y.from(0), 120);
        t.due("from(1)", y.from(1), 2);
        OldestDown z = Due.war(0, 119, 9);
        t.due("from(0)", z.from(0), 110);
    }

    @Sentence(of = "Terms 4", says = "that for which LASTS is least; of several the greatest; that.")
    static void fromOfSeveral(Due t) {
        OldestDown x = Due.war(0, 75, 5);
        t.due("from(0)", x.from(0), 70);
        t.due("from(1)", x.from(1), 3);
        Due.tell(x, 0, "call age; step 9 when age = 70 and day > 0; step 0;");
        OldestDown y = Due.war(0, 80, 1, 0, 70, 9);
        Due.tell(y, 0, "call age; step 9 when age = 70 and day > 0; step 0;");
        // On DAY 1 he goes 9, on DAY 2 the rest, whether called on DAY 0 or 1.
        t.due("from(0)", y.from(0), 70);
        t.due("from(1)", y.from(1), 3);
        OldestDown z = new OldestDown();
        t.due("from(0) without MEN", z.from(0), 120);
        t.due("from(1)", z.from(1), 1);
        z.days(1);
        t.due("from(0) in peace", z.from(0), 120);
        t.due("from(1)", z.from(1), 0);
    }

    @Sentence(of = "Terms 4", says = "from which on alone call holds (others: 0), all else by THE LAW:")
    static void fromHoldsForFromAlone(Due t) {
        OldestDown x = Due.war(0, 0, 9, 0, 0, 1);
        Due.tell(x, 0, "call 1;");
        t.due("from(0)", x.from(0), 0);
        t.due("AGE 0 is called in thought", x.lasts(0), 2);
        Due.tell(x, 0, "call 1; step 9 when day > 0 and legs = 9; step 0;");
        t.due("from(0)", x.from(0), 0);
        t.due("AGE 0 is called in thought", x.soonest(0, 1), 3);
        OldestDown y = Due.war(0, 0, 9, 1, 20, 1);
        Due.tell(y, 0, "call 1 when age = 0; call 0;");
        y.set(5, 0, 99);
        t.due("from(1)", y.from(1), 2);
        t.due("AGE 0 is called against him", y.soonest(1, 1), 3);
    }

    @Sentence(of = "Promise 16", says = "LASTS what 0 DAYS (NONE: longer), 1 how many are made CAPTIVES, 2, 3 BREATH of COUNTRIES 0, 1 (then, or behind 99 DAYS).")
    static void promiseOfLasts(Due t) {
        OldestDown x = Due.war(0, 70, 9, 1, 70, 9, 0, 20, 1);
        x.set(5, 0, 40);
        // 0 is CAPTIVE on DAY 0, 1 comes to CELL 0 on DAY 1.
        lasting(t, x, 2, 1, 90, 40);
        Due.tell(x, 0, "nap 1;");
        lasting(t, x, -1, 0, 149, 99);
        OldestDown y = Due.war(0, 70, 9, 1, 70, 9);
        Due.tell(y, 0, "nap 1 when country = 0 and day < 60; step 0;");
        y.set(5, 0, 0);
        lasting(t, y, -1, 0, 60, 50);
    }

    @Sentence(of = "Promise 16", says = "NONE for another what.")
    static void lastsWhatElse(Due t) {
        OldestDown x = Due.men(0, 80, 5, 1, 80, 5);
        for (int what : new int[] {-1, 4, Integer.MIN_VALUE, Integer.MAX_VALUE}) t.due("lasts(" + what + ")", x.lasts(what), -1);
    }

    @Sentence(of = "Promise 17", says = "SOONEST what 0 the MAN, 1 DAYS.")
    static void promiseOfSoonest(Due t) {
        OldestDown x = Due.war(1, 20, 3, 0, 20, 4, 1, 20, 5);
        soon(t, x, 0, 1, 4);
        soon(t, x, 1, 2, 3);
    }

    @Sentence(of = "Promise 17", says = "SOONEST what 0 the MAN, 1 DAYS.")
    static void soonestInPeace(Due t) {
        OldestDown x = Due.men(1, 20, 1, 0, 20, 1, 0, 20, 9);
        x.days(1);
        t.due("WAR", x.look(2), 0);
        soon(t, x, 0, 1, 0);
        soon(t, x, 1, 0, 0);
    }

    @Sentence(of = "Promise 17", says = "NONE if none is at HOME,")
    static void soonestOfNobodyAtHome(Due t) {
        OldestDown x = Due.war(0, 90, 1, 1, 20, 1);
        x.days(1);
        soon(t, x, 0, -1, -1);
        soon(t, Due.war(0, 90, 1), 1, -1, -1);
        soon(t, new OldestDown(), 0, -1, -1);
    }

    @Sentence(of = "Promise 17", says = "WAR lasts longer by each,")
    static void soonestIsTooLate(Due t) {
        OldestDown x = Due.war(0, 90, 1, 1, 20, 1);
        x.days(1);
        // They meet with as much BREATH, 25, 12 .. 0, for ever.
        soon(t, x, 1, -1, -1);
        x.set(5, 1, 99);
        // They meet at CELL 8 on DAY 7 and, 0 called anew, at CELL 3 on DAY 13.
        soon(t, x, 1, 1, 16);
        OldestDown y = Due.war(0, 20, 1);
        Due.tell(y, 0, "step 1 when day > 83; step 0;");
        soon(t, y, 0, 0, 99);
        Due.tell(y, 0, "step 1 when day > 84; step 0;");
        soon(t, y, 0, -1, -1);
    }

    @Sentence(of = "Promise 17", says = "there is no such COUNTRY, or another what.")
    static void soonestWhatElse(Due t) {
        OldestDown x = Due.men(0, 80, 5, 1, 80, 5);
        for (int what : new int[] {-1, 2, Integer.MIN_VALUE, Integer.MAX_VALUE}) {
            t.due("soonest(0, " + what + ")", x.soonest(0, what), -1);
            t.due("soonest(" + what + ", 0)", x.soonest(what, 0), -1);
            t.due("soonest(" + what + ", 1)", x.soonest(what, 1), -1);
        }
    }

    @Sentence(of = "Promise 18", says = "FROM what 0 the AGE, 1 DAYS.")
    static void promiseOfFrom(Due t) {
        OldestDown x = Due.war(0, 99, 5);
        t.due("from(0)", x.from(0), 90);
        t.due("from(1)", x.from(1), 3);
    }

    @Sentence(of = "Promise 18", says = "NONE if WAR lasts longer by each,")
    static void fromIsTooLate(Due t) {
        OldestDown x = Due.war(0, 50, 3);
        t.due("from(0)", x.from(0), -1);
        t.due("from(1)", x.from(1), -1);
        OldestDown y = Due.war(0, 65, 1);
        Due.tell(y, 0, "step 1 when day > 83; step 0;");
        t.due("from(0)", y.from(0), 60);
        t.due("from(1)", y.from(1), 99);
        Due.tell(y, 0, "step 1 when day > 84; step 0;");
        t.due("from(0)", y.from(0), -1);
        t.due("from(1)", y.from(1), -1);
    }

    @Sentence(of = "Promise 18", says = "or another what.")
    static void fromWhatElse(Due t) {
        OldestDown x = Due.war(0, 80, 5);
        for (int what : new int[] {-1, 2, Integer.MIN_VALUE, Integer.MAX_VALUE}) t.due("from(" + what + ")", x.from(what), -1);
    }
}
