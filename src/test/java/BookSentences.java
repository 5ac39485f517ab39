/** Terms 3: THE BOOK, and to TEACH and to SEND. */
final class BookSentences {
    // ---- THE BOOK

    @Sentence(of = "Terms 3", says = {"THE BOOK's lines in this order, 5 ahead of 4.",
        "DAY, what (0 called, 1 CAPTIVE, 2 beaten HOME, 3 forgot, 4 peace, 5 back from tea), the MAN (4: NONE), number (0, 1, 2: the CELL; 3: the FACT; else 0)."})
    static void allLinesOfOneDay(Due t) {
        OldestDown x = FightSentences.threeAtTheEndOf(0, 31, 20, 40, 99);
        x.man(0, 70, 1);
        x.set(5, 4, 2);
        x.set(3, 0, 4);
        x.set(2, 0, 0);
        x.teach(3, 5);
        x.teach(0, 6);
        Due.tell(x, 0, "step 0 when country = 0; fade 1000;");
        x.days(1);
        t.line(x, 4, 4, 0, 4, 0);
        t.line(x, 5, 4, 1, 4, 0);
        t.line(x, 6, 4, 2, 0, 0);
        t.line(x, 7, 4, 2, 1, 0);
        t.line(x, 8, 4, 2, 2, 0);
        t.line(x, 9, 4, 3, 0, 6);
        t.line(x, 10, 4, 3, 3, 5);
        t.line(x, 11, 4, 5, 4, 0);
        t.line(x, 12, 4, 4, -1, 0);
        t.due("lines", x.look(7), 13);
    }

    @Sentence(of = "Terms 3", says = "number (0, 1, 2: the CELL; 3: the FACT; else 0).")
    static void numbersOfLines(Due t) {
        OldestDown x = Due.war(0, 70, 9, 1, 70, 9, 0, 90, 1);
        x.set(3, 0, 1);
        Due.tell(x, 0, "call 1 when age = 70; call 2; step 9;");
        x.set(5, 2, 10);
        x.set(2, 0, 1);
        x.days(1);
        t.line(x, 0, 0, 0, 2, 0);
        t.line(x, 1, 0, 0, 1, 15);
        // MAN 1 goes first, 9 CELLS down; 2 comes to him.
        t.line(x, 2, 0, 1, 2, 6);
        x.days(1);
        t.line(x, 3, 1, 0, 0, 0);
        t.line(x, 4, 1, 1, 1, 6);
        OldestDown y = Due.war(0, 90, 1, 0, 80, 1, 1, 70, 1);
        Due.tell(y, 0, "step 5 when country = 1 or cell = 0; step 0;");
        y.set(5, 0, 20);
        y.set(5, 1, 20);
        y.days(2);
        t.line(y, 2, 1, 0, 1, 0);
        t.line(y, 3, 1, 1, 1, 5);
        t.line(y, 4, 1, 2, 0, 5);
    }

    @Sentence(of = "Terms 3", says = "THE BOOK (150 lines; no more then):")
    static void fullBook(Due t) {
        OldestDown x = Due.war();
        for (int m = 0; m < 12; m++) x.man(0, 20, 1);
        Due.tell(x, 0, "fade 1000;");
        for (int f = 0; f < 7; f++) for (int m = 0; m < 12; m++) x.teach(m, f);
        x.days(7);
        t.due("lines", x.look(7), 84);
        for (int f = 0; f < 7; f++) for (int m = 0; m < 12; m++) x.teach(m, f);
        x.days(5);
        t.due("lines", x.look(7), 144);
        x.days(1);
        t.due("the last ones", x.look(7), 150);
        t.line(x, 149, 12, 3, 5, 5);
        t.due("no 151st", x.book(150, 0), -2);
        x.days(1);
        t.due("no more", x.look(7), 150);
        t.line(x, 149, 12, 3, 5, 5);
        for (int m = 0; m < 12; m++) t.due("all goes on", x.of(m, 4), 0);
    }

    // ---- to TEACH, to SEND

    @Sentence(of = "Terms 3", says = "To TEACH a MAN a FACT;")
    static void teaches(Due t) {
        OldestDown x = Due.men(0, 60, 3, 0, 61, 3);
        t.due("FACT 7", x.teach(1, 7), true);
        t.due("FACT 0", x.teach(1, 0), true);
        t.due("he KNOWS", x.of(1, 4), 129);
        t.due("the other KNOWS", x.of(0, 4), 0);
    }

    /** MAN 0 (40) of COUNTRY 0 at CELL 2, 3 of COUNTRY 1 at CELL 13, 1 (40), 2 (41) and 4 of COUNTRY 1 at HOME. */
    static OldestDown withFront() {
        OldestDown x = Due.war(0, 40, 2, 0, 40, 3, 0, 41, 3, 1, 70, 2, 1, 90, 2);
        x.set(3, 0, 1);
        x.set(3, 1, 1);
        Due.tell(x, 0, "call 100 - age when country = 1; call 1 when age = 40;");
        x.days(1);
        x.set(6, 0, 30);
        return x;
    }

    private static void sends(Due t, OldestDown x, int old, int young, int coin, boolean due) {
        String was = Due.all(x);
        t.due("send " + old + " for " + young + " at " + coin, x.send(old, young, coin), due);
        if (!due) t.same("refused", Due.all(x), was);
    }

    @Sentence(of = "Terms 3", says = {"to SEND for one: a MAN at HOME goes for one of his COUNTRY IN THE FIELD who is younger than he:",
        "he is there, that one at HOME,"})
    static void sendsTheOlderOne(Due t) {
        OldestDown x = withFront();
        sends(t, x, 2, 0, 0, true);
        t.where(x, 2, 1, 2, 50);
        t.where(x, 0, 0, -1, 50);
        t.due("no line of THE BOOK", x.look(7), 2);
        x.days(1);
        t.where(x, 2, 1, 5, 50);
        // They go back and forth as the AGES allow.
        sends(t, x, 0, 2, 0, false);
    }

    @Sentence(of = "Terms 3", says = "a MAN at HOME goes for one of his COUNTRY IN THE FIELD who is younger than he:")
    static void whoMustBeAtHome(Due t) {
        OldestDown x = Due.war(0, 70, 9, 0, 71, 1, 1, 70, 9);
        Due.tell(x, 0, "step 0 when age = 71;");
        x.days(2);
        sends(t, x, 1, 0, 0, false);
        t.due("both IN THE FIELD", x.country(0, 0), 2);
        // 1 (71) beaten and CAPTIVE at CELL 9; 0 (70) is called.
        OldestDown y = Due.war(0, 70, 1, 0, 71, 9, 1, 70, 9);
        y.set(5, 1, 40);
        y.days(2);
        t.due("CAPTIVE", y.of(1, 6), 2);
        t.due("IN THE FIELD", y.of(0, 6), 1);
        sends(t, y, 1, 0, 0, false);
    }

    @Sentence(of = "Terms 3", says = "a MAN at HOME goes for one of his COUNTRY IN THE FIELD who is younger than he:")
    static void whomMustBeInTheField(Due t) {
        OldestDown x = withFront();
        sends(t, x, 2, 1, 0, false);
        sends(t, x, 2, 2, 0, false);
        OldestDown y = Due.war(0, 70, 9, 0, 71, 1, 1, 70, 9);
        Due.tell(y, 0, "call 1 when age = 70; call 0; step 9 when day = 0; step 0;");
        y.set(3, 0, 1);
        y.set(5, 0, 40);
        y.days(1);
        t.due("CAPTIVE", y.of(0, 6), 2);
        t.due("at HOME", y.of(1, 6), 0);
        sends(t, y, 1, 0, 0, false);
    }

    @Sentence(of = "Terms 3", says = "a MAN at HOME goes for one of his COUNTRY IN THE FIELD who is younger than he:")
    static void whomMustBeOfHisCountry(Due t) {
        OldestDown x = withFront();
        sends(t, x, 4, 0, 0, false);
        sends(t, x, 4, 3, 0, true);
    }

    @Sentence(of = "Terms 3", says = "a MAN at HOME goes for one of his COUNTRY IN THE FIELD who is younger than he:")
    static void whomMustBeYounger(Due t) {
        sends(t, withFront(), 1, 0, 0, false);
        sends(t, withFront(), 0, 0, 0, false);
        for (int younger : new int[] {0, 1}) {
            OldestDown x = withFront();
            sends(t, x, 2, 0, 0, true);
            sends(t, x, younger, 2, 0, false);
        }
    }

    @Sentence(of = "Terms 3", says = "who pays COIN n to him (0 .. what he has;")
    static void paysWhatHeHasAtMost(Due t) {
        for (int coin : new int[] {-1, 31, Integer.MIN_VALUE, Integer.MAX_VALUE}) {
            sends(t, withFront(), 2, 0, coin, false);
        }
        OldestDown x = withFront();
        sends(t, x, 2, 0, 30, true);
        t.due("who paid all", x.of(0, 5), 0);
        t.due("who was paid", x.of(2, 5), 30);
        OldestDown y = withFront();
        sends(t, y, 2, 0, 12, true);
        t.due("who paid some", y.of(0, 5), 18);
        t.due("who was paid", y.of(2, 5), 12);
        OldestDown z = withFront();
        sends(t, z, 2, 0, 0, true);
        t.due("who paid none", z.of(0, 5), 30);
    }

    @Sentence(of = "Terms 3", says = "999 at most for who gets it).")
    static void hasNoMoreThanTheMostCoin(Due t) {
        int[] had = {969, 970, 999};
        for (int has : had) {
            OldestDown x = withFront();
            x.set(6, 2, has);
            sends(t, x, 2, 0, 30, true);
            t.due("who had " + has, x.of(2, 5), 999);
            t.due("who paid", x.of(0, 5), 0);
        }
    }
}
