/** Promises 16 to 18: LASTS, SOONEST and FROM, thought in DAYS that nobody lives. */
final class ThoughtTest {
    private static final Due t = new Due();

    public static void main(String[] args) {
        newOne();
        lasts();
        lastsNinetyNine();
        captives();
        nothingStays();
        nobodyForgets();
        tellingInThought();
        soonest();
        soonestOfOne();
        soonestOfNobody();
        soonestInPeace();
        from();
        fromWithoutChoice();
        wrongly();
        t.end();
    }

    private static void lasting(OldestDown x, int... due) {
        for (int what = 0; what < 4; what++) t.due("lasts " + what, x.lasts(what), due[what]);
    }

    private static void newOne() {
        OldestDown x = new OldestDown();
        lasting(x, 1, 0, 0, 0);
        x.days(1);
        lasting(x, 0, 0, 0, 0);
    }

    private static void lasts() {
        OldestDown x = Due.war(0, 80, 4, 1, 20, 1, 1, 20, 1);
        x.set(5, 2, 7);
        lasting(x, 4, 0, 50, 57);
        x.set(4, 4, 1);
        // 3 (one left ahead of the hill), 6, 10, 14, 15
        lasting(x, 5, 0, 50, 57);
        Due.tell(x, 3, "on 1 rest 0;");
        lasting(x, 6, 0, 60, 57);
        x.days(3);
        lasting(x, 3, 0, 60, 57);
    }

    private static void lastsNinetyNine() {
        OldestDown x = Due.war(0, 80, 4);
        Due.tell(x, 0, "step 1 when day > 83; step 0;");
        lasting(x, 99, 0, 50, 0);
        Due.tell(x, 0, "step 1 when day > 84; step 0;");
        lasting(x, -1, 0, 50, 0);
        Due.tell(x, 0, "nap 1 when day < 200;");
        lasting(x, -1, 0, 99, 0);
        x.days(1);
        x.set(5, 0, 0);
        Due.tell(x, 0, "nap 1 when day < 30; step 0;");
        lasting(x, -1, 0, 29, 0);
    }

    private static void captives() {
        OldestDown x = Due.war(0, 70, 9, 1, 70, 9);
        x.set(5, 0, 40);
        lasting(x, 2, 1, 40, 40);
        x.days(1);
        t.due("he is one now", x.of(0, 6), 2);
        lasting(x, 1, 0, 40, 40);
        OldestDown z = Due.war(0, 70, 9, 1, 70, 9);
        z.set(5, 0, 40);
        Due.tell(z, 0, "step 9 when day < 1; step 9 when country = 0 and day < 9; step 9 when day > 9; step 0;");
        z.days(3);
        // A CAPTIVE since day 0, so he is HOME on day 3, called on day 4, and comes to the other with as much breath.
        lasting(z, -1, 0, 0, 0);
        OldestDown y = Due.war(0, 70, 9, 1, 70, 9);
        y.set(5, 0, 40);
        y.set(2, 0, 1);
        // He is back the day behind each fight and called again, on days 0, 2, 4, 6, 8; on day 10 both have 40.
        Due.tell(y, 0, "nap 40 when country = 1 and day > 0 and day < 2; step 9 when day < 1; step 9 when country = 0; step 0;");
        lasting(y, -1, 5, 0, 0);
    }

    private static void nothingStays() {
        OldestDown x = Due.war(0, 70, 9, 1, 70, 9);
        x.set(5, 0, 40);
        x.teach(0, 3);
        x.state(4711);
        x.teach(1, 3);
        for (int i = 0; i < 2; i++) {
            x.lasts(i);
            x.soonest(i, 0);
            x.from(i);
        }
        t.due("state", x.look(8), 4711);
        t.due("day", x.look(1), 0);
        t.due("war", x.look(2), 1);
        t.due("book", x.look(7), 0);
        t.due("to be undone", x.look(14), 1);
        int[] due = {0, 70, 9, 40, 8, 0, 0, -1, 0};
        for (int i = 0; i < due.length; i++) t.due("of " + i, x.of(0, i), due[i]);
        t.due("undo", x.undo(), true);
        t.due("knows", x.of(1, 4), 0);
    }

    private static void nobodyForgets() {
        OldestDown x = new OldestDown();
        x.man(0, 80, 5);
        x.man(1, 20, 5);
        x.teach(0, 0);
        x.teach(1, 0);
        Due.tell(x, 0, "fade 1000;");
        lasting(x, 3, 0, 50, 50);
        x.days(1);
        t.due("but awake they do", x.look(2), 0);
    }

    private static void tellingInThought() {
        OldestDown x = new OldestDown();
        x.man(0, 20, 5);
        x.man(1, 20, 5);
        x.teach(0, 0);
        x.teach(0, 1);
        x.teach(1, 2);
        x.set(0, 0, 2);
        t.due("one knows too little", x.lasts(0), 1);
        Due.tell(x, 1, "0 tells 1;");
        t.due("he is told", x.lasts(0), -1);
        t.due("not in truth", x.of(1, 4), 4);
    }

    private static void soonest() {
        OldestDown x = Due.war(0, 20, 3, 0, 20, 8, 0, 20, 8, 1, 30, 5, 1, 30, 7, 1, 30, 9);
        t.due("war lasts", x.lasts(0), -1);
        t.due("soonest", x.soonest(0, 0), 1);
        t.due("days", x.soonest(0, 1), 2);
        t.due("soonest", x.soonest(1, 0), 5);
        t.due("days", x.soonest(1, 1), 2);
        for (int cell = 9; cell < 13; cell++) x.set(4, cell, 1);
        // Up by 8: CELLS 8, 12, 15; down by 9: CELLS 10, 2, 0.
        t.due("days over hills", x.soonest(0, 1), 3);
        t.due("days over hills", x.soonest(1, 1), 3);
    }

    /** Who is in the field leaves others of those wanted at home. */
    private static void soonestOfOne() {
        OldestDown x = Due.war(0, 90, 1, 0, 20, 5);
        x.set(3, 0, 1);
        t.due("lasts", x.lasts(0), 15);
        t.due("soonest", x.soonest(0, 0), 1);
        t.due("days", x.soonest(0, 1), 3);
        x.days(1);
        t.due("the other is at home yet", x.soonest(0, 0), 1);
        t.due("days", x.soonest(0, 1), 3);
        t.due("lasts", x.lasts(0), 14);
    }

    private static void soonestOfNobody() {
        OldestDown x = Due.war(0, 90, 1, 1, 20, 1);
        x.days(1);
        t.due("he is in the field", x.soonest(0, 0), -1);
        t.due("days", x.soonest(0, 1), -1);
        t.due("they meet with as much breath for ever", x.soonest(1, 0), -1);
        x.set(5, 1, 99);
        t.due("he is stronger", x.soonest(1, 0), 1);
        // They meet at CELL 8 on day 7 and, called anew, at CELL 3 on day 13.
        t.due("days", x.soonest(1, 1), 16);
        Due.tell(x, 0, "step 0;");
        t.due("longer by each", x.soonest(1, 0), -1);
        t.due("longer by each", x.soonest(1, 1), -1);
    }

    private static void soonestInPeace() {
        OldestDown x = new OldestDown();
        x.man(1, 20, 1);
        x.man(0, 20, 1);
        x.man(0, 20, 9);
        x.days(1);
        t.due("peace", x.look(2), 0);
        t.due("soonest", x.soonest(0, 0), 1);
        t.due("days", x.soonest(0, 1), 0);
        t.due("soonest", x.soonest(1, 0), 0);
    }

    private static void from() {
        OldestDown x = Due.war(0, 80, 1, 0, 70, 9);
        x.set(3, 0, 1);
        Due.tell(x, 0, "call 120 - age;");
        t.due("from", x.from(0), 70);
        t.due("days", x.from(1), 2);
        Due.tell(x, 0, "call age;");
        t.due("from", x.from(0), 80);
        t.due("days", x.from(1), 15);
        Due.tell(x, 0, "call 120 - age; step 9 when age = 80; step 1;");
        t.due("from", x.from(0), 80);
        t.due("days", x.from(1), 2);
        Due.tell(x, 0, "call age; step 9 when age = 70 and day > 0; step 0;");
        x.set(3, 0, 2);
        t.due("from", x.from(0), 70);
        t.due("days", x.from(1), 3);
    }

    private static void fromWithoutChoice() {
        OldestDown x = new OldestDown();
        t.due("from", x.from(0), 120);
        t.due("days", x.from(1), 1);
        x.days(1);
        t.due("from in peace", x.from(0), 120);
        t.due("days in peace", x.from(1), 0);
        OldestDown y = Due.war(0, 50, 3);
        t.due("longer by each", y.from(0), -1);
        t.due("longer by each", y.from(1), -1);
        Due.tell(y, 0, "call 1;");
        t.due("from", y.from(0), 50);
        OldestDown z = Due.war(1, 120, 9);
        t.due("from", z.from(0), 120);
        OldestDown w = Due.war(1, 9, 9);
        Due.tell(w, 0, "call 1;");
        t.due("from", w.from(0), 0);
        OldestDown v = Due.war(0, 0, 9, 0, 0, 1);
        Due.tell(v, 0, "call 1;");
        t.due("age 0 is called in thought", v.lasts(0), 2);
        Due.tell(v, 0, "call 1; step 9 when day > 0 and legs = 9; step 0;");
        t.due("age 0 is called in thought", v.soonest(0, 1), 3);
        t.due("of age 0", v.from(0), 0);
        OldestDown u = Due.war(0, 0, 9, 1, 20, 1);
        Due.tell(u, 0, "call 1 when age = 0; call 0;");
        u.set(5, 0, 99);
        t.due("age 0 is called against him", u.soonest(1, 1), 3);
    }

    private static void wrongly() {
        OldestDown x = new OldestDown();
        x.man(0, 80, 5);
        x.man(1, 80, 5);
        for (int what : new int[] {-1, Integer.MIN_VALUE, 4, Integer.MAX_VALUE}) t.due("lasts", x.lasts(what), -1);
        for (int what : new int[] {-1, Integer.MIN_VALUE, 2, Integer.MAX_VALUE}) {
            t.due("soonest", x.soonest(0, what), -1);
            t.due("from", x.from(what), -1);
        }
        t.due("no such country", x.soonest(2, 0), -1);
        t.due("no such country", x.soonest(-1, 1), -1);
    }
}
