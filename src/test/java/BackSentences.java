/** Terms 4: UNDO and THE IMAGE, all that goes back. */
final class BackSentences {
    /** MEN 0 (80, LEGS 4) and 2 (90, LEGS 2) of COUNTRY 0, 1 (80, LEGS 4) of COUNTRY 1, who KNOW some. */
    private static OldestDown front() {
        OldestDown x = Due.men(0, 80, 4, 1, 80, 4, 0, 90, 2);
        x.teach(0, 1);
        x.teach(0, 2);
        x.teach(1, 3);
        x.state(2020);
        return x;
    }

    private static OldestDown forgetful() {
        OldestDown x = front();
        x.set(4, 3, 1);
        Due.tell(x, 1, "0 tells 2;");
        Due.tell(x, 0, "fade 400;");
        return x;
    }

    // ---- UNDO

    @Sentence(of = "Terms 4", says = "UNDO: the latest DAY, TEACHING, SENDING not undone yet goes back (STATE, THE BOOK, too):")
    static void undoesDays(Due t) {
        for (int undone = 1; undone <= 6; undone++) {
            OldestDown x = forgetful();
            x.days(6);
            for (int i = 0; i < undone; i++) t.due("undo", x.undo(), true);
            OldestDown y = forgetful();
            if (undone < 6) y.days(6 - undone);
            t.same(undone + " DAYS of six undone", Due.all(x), Due.all(y));
            t.due("what can be undone", x.look(14), 6 - undone);
            x.days(undone);
            y.days(undone);
            t.same("gone by again", Due.all(x), Due.all(y));
        }
    }

    @Sentence(of = "Terms 4", says = "UNDO: the latest DAY, TEACHING, SENDING not undone yet goes back (STATE, THE BOOK, too):")
    static void undoesPeace(Due t) {
        OldestDown x = new OldestDown();
        x.days(1);
        t.due("WAR", x.look(2), 0);
        t.due("undo", x.undo(), true);
        t.due("WAR", x.look(2), 1);
        t.due("lines", x.look(7), 0);
        t.due("no line", x.book(0, 0), -2);
        t.due("DAY", x.look(1), 0);
    }

    @Sentence(of = "Terms 4", says = "UNDO: the latest DAY, TEACHING, SENDING not undone yet goes back (STATE, THE BOOK, too):")
    static void undoesTeaching(Due t) {
        OldestDown x = front();
        String was = Due.all(x);
        x.teach(2, 7);
        t.due("he KNOWS", x.of(2, 4), 128);
        t.due("undo", x.undo(), true);
        t.same("undone", Due.all(x), was);
        t.due("taught again", x.teach(2, 7), true);
    }

    @Sentence(of = "Terms 4", says = "UNDO: the latest DAY, TEACHING, SENDING not undone yet goes back (STATE, THE BOOK, too):")
    static void undoesSending(Due t) {
        OldestDown x = front();
        x.set(3, 0, 1);
        Due.tell(x, 0, "call 1 when age = 80; call 0; fade 0;");
        x.days(1);
        x.set(6, 0, 70);
        x.set(6, 2, 990);
        String was = Due.all(x);
        t.due("send", x.send(2, 0, 33), true);
        t.where(x, 2, 1, 4, 50);
        t.due("COIN", x.of(0, 5), 37);
        t.due("undo", x.undo(), true);
        t.same("undone", Due.all(x), was);
        t.due("undo", x.undo(), false);
    }

    @Sentence(of = "Terms 4", says = "UNDO: the latest DAY, TEACHING, SENDING not undone yet goes back (STATE, THE BOOK, too):")
    static void undoesTheFullBook(Due t) {
        OldestDown x = Due.war();
        for (int m = 0; m < 12; m++) x.man(0, 20, 1);
        Due.tell(x, 0, "fade 1000;");
        for (int round = 0; round < 2; round++) {
            for (int f = 0; f < 7; f++) for (int m = 0; m < 12; m++) x.teach(m, f);
            x.days(7);
        }
        t.due("lines", x.look(7), 150);
        x.undo();
        t.due("lines ahead of the last DAY", x.look(7), 150);
        x.undo();
        t.due("lines ahead of DAY 12", x.look(7), 144);
        t.due("no 145th", x.book(144, 0), -2);
        x.days(1);
        t.line(x, 149, 12, 3, 5, 5);
    }

    @Sentence(of = "Terms 4", says = "not undone yet goes back")
    static void undoesBehindUndoing(Due t) {
        OldestDown x = front();
        x.teach(2, 0);
        x.days(2);
        x.undo();
        x.teach(2, 5);
        x.days(1);
        t.due("a TEACHING, a DAY, a TEACHING, a DAY", x.look(14), 4);
        x.undo();
        t.due("the DAY", x.look(1), 1);
        x.undo();
        t.due("the TEACHING", x.of(2, 4) & 32, 0);
        x.undo();
        t.due("the DAY", x.look(1), 0);
        t.due("not the first TEACHING yet", x.of(2, 4), 1);
        x.undo();
        t.due("the first TEACHING", x.of(2, 4), 0);
        t.due("nothing is left", x.undo(), false);
    }

    @Sentence(of = "Terms 4", says = "6 are kept;")
    static void sixAreKept(Due t) {
        OldestDown x = front();
        for (int f = 0; f < 8; f++) {
            x.teach(2, f);
            t.due("what can be undone", x.look(14), Math.min(6, f + 1));
        }
        for (int i = 0; i < 6; i++) t.due("undo", x.undo(), true);
        t.due("a seventh", x.undo(), false);
        t.due("the first two stay", x.of(2, 4), 3);
        x.days(60);
        t.due("six of sixty DAYS", x.look(14), 6);
        for (int i = 0; i < 6; i++) x.undo();
        t.due("DAY", x.look(1), 54);
        t.due("a seventh", x.undo(), false);
    }

    @Sentence(of = "Terms 4", says = "whatever else is told but THE LAW, WEIGHTS, SLIPPERS (the taking of THE IMAGE does not) forgets them.")
    static void forgetsWhatCanBeUndone(Due t) {
        for (int k = 0; k < 13; k++) {
            OldestDown x = front();
            x.teach(2, 0);
            x.days(1);
            t.due("what can be undone", x.look(14), 2);
            String told = "set(" + k + ")";
            switch (k) {
                case 7: x.state(x.look(8)); told = "state"; break;
                case 8: x.man(0, 1, 1); told = "man"; break;
                case 9: Due.tell(x, 1, ""); told = "TELLING, empty"; break;
                case 10: Due.tell(x, 3, "on 1 go 0;"); told = "ORDERS"; break;
                case 11: x.image(true); x.image(false); told = "going back to THE IMAGE"; break;
                case 12: Due.tell(x, 1, "0 tells 1;"); told = "TELLING"; break;
                default: x.set(k, 0, k == 4 ? 0 : 1); break;
            }
            t.due("behind " + told, x.look(14), 0);
            t.due("undo behind " + told, x.undo(), false);
            t.due("the DAY stays", x.look(1), 1);
        }
    }

    @Sentence(of = "Terms 4", says = "whatever else is told but THE LAW, WEIGHTS, SLIPPERS (the taking of THE IMAGE does not) forgets them.")
    static void keepsWhatCanBeUndone(Due t) {
        OldestDown x = front();
        x.teach(2, 0);
        Due.tell(x, 0, "nap 1;");
        t.due("behind THE LAW", x.look(14), 1);
        Due.tell(x, 2, "fact 1 weighs 2;");
        t.due("behind WEIGHTS", x.look(14), 1);
        x.slipper(1, 1, 1);
        x.slipper(-1, 0, 0);
        x.slipper(2, 2, 2);
        t.due("behind SLIPPERS", x.look(14), 1);
        x.image(true);
        t.due("behind the taking of THE IMAGE", x.look(14), 1);
        t.due("undo", x.undo(), true);
        t.due("undone", x.of(2, 4), 0);
        t.due("THE LAW stays", x.of(2, 12), 1);
        t.due("WEIGHTS stay", x.weight(1), 2);
        t.due("the SLIPPER stays", x.look(13), 1);
    }

    @Sentence(of = "Terms 4", says = "whatever else is told but THE LAW, WEIGHTS, SLIPPERS (the taking of THE IMAGE does not) forgets them.")
    static void refusedCallsTellNothing(Due t) {
        OldestDown x = front();
        x.teach(2, 0);
        x.man(2, 1, 1);
        x.set(0, 0, 100);
        x.set(9, 0, 0);
        x.teach(2, 0);
        x.teach(2, 8);
        x.send(0, 0, 0);
        x.days(0);
        x.days(61);
        Due.tell(x, 1, "0 tells 0;");
        Due.tell(x, 3, "on");
        Due.tell(x, 4, "");
        x.image(false);
        x.slipper(31, 0, 0);
        x.end(-1);
        t.due("what can be undone", x.look(14), 1);
        Due.feed(x, "abc");
        x.end(1);
        t.due("the TAPE is no TEXT yet", x.look(14), 1);
        x.lasts(0);
        x.soonest(0, 0);
        x.from(0);
        x.fault(0);
        t.due("behind questions", x.look(14), 1);
        t.due("undo", x.undo(), true);
        t.due("he KNOWS", x.of(2, 4), 0);
    }

    @Sentence(of = "Terms 4", says = "whatever else is told but THE LAW, WEIGHTS, SLIPPERS")
    static void undoesUnderANewLaw(Due t) {
        OldestDown x = front();
        x.days(1);
        t.due("CELL", x.of(2, 7), 2);
        Due.tell(x, 0, "step 1;");
        x.undo();
        x.days(1);
        t.due("CELL by the new LAW", x.of(2, 7), 1);
    }

    // ---- THE IMAGE

    @Sentence(of = "Terms 4", says = "THE IMAGE: all that is and was told but the TAPE, fault() and what can be undone (nothing then), as it was when it was taken;")
    static void imageOfAllThatIs(Due t) {
        OldestDown x = front();
        x.days(3);
        x.slipper(3, 3, 3);
        String was = Due.all(x);
        x.image(true);
        for (int what = 0; what < 4; what++) x.set(what, 0, 5);
        x.set(4, 5, 1);
        x.set(5, 0, 5);
        x.set(6, 0, 5);
        x.man(0, 99, 9);
        x.days(9);
        x.state(1);
        x.slipper(-1, 0, 0);
        t.due("changed", was.equals(Due.all(x)), false);
        t.due("gone back", x.image(false), true);
        t.same("gone back", Due.all(x), was);
    }

    @Sentence(of = "Terms 4", says = "THE IMAGE: all that is and was told but the TAPE, fault() and what can be undone (nothing then), as it was when it was taken;")
    static void imageOfTexts(Due t) {
        OldestDown x = front();
        String[] texts = {"nap 7; step 2; fade 9;", "0 tells 1; 2 tells 0;", "fact 2 weighs 7;", "on 0 rest 1; on 0 rest 0;"};
        for (int k = 0; k < 4; k++) Due.tell(x, k, texts[k]);
        String was = Due.all(x);
        x.image(true);
        for (int k = 0; k < 4; k++) Due.tell(x, k, "");
        t.due("nap", x.of(0, 12), 0);
        x.image(false);
        t.same("gone back", Due.all(x), was);
        t.due("THE LAW", x.of(0, 12), 7);
        t.due("TELLING", x.of(2, 8), 1);
        t.due("WEIGHTS", x.weight(2), 7);
        t.due("ORDERS", x.country(1, 4), 1);
        x.days(1);
        t.where(x, 0, 0, -1, 50);
        t.where(x, 2, 1, 0, 60);
    }

    @Sentence(of = "Terms 4", says = "THE IMAGE: all that is and was told but the TAPE, fault() and what can be undone (nothing then), as it was when it was taken;")
    static void imageOfTheBook(Due t) {
        // Undoing goes behind THE IMAGE, other DAYS are led to THE BOOK.
        OldestDown x = front();
        Due.tell(x, 0, "fade 1000;");
        x.days(2);
        String was = Due.all(x);
        x.image(true);
        x.undo();
        x.undo();
        Due.tell(x, 0, "call 1 when age = 80; fade 0;");
        x.days(4);
        x.image(false);
        t.same("gone back", Due.all(x), was);
    }

    @Sentence(of = "Terms 4", says = "THE IMAGE: all that is and was told but the TAPE, fault() and what can be undone (nothing then), as it was when it was taken;")
    static void imageOfSlippers(Due t) {
        OldestDown x = front();
        x.slipper(1, 4, 0);
        x.slipper(2, 3, 4);
        t.due("LEFT", x.left(), 3);
        x.image(true);
        x.slipper(-1, 0, 0);
        x.slipper(2, 2, 2);
        x.slipper(3, 3, 2);
        t.due("LEFT", x.left(), 4);
        x.image(false);
        t.due("LEFT as then", x.left(), 3);
        x.slipper(-1, 0, 0);
        x.slipper(1, 2, 0);
        x.image(true);
        x.slipper(-1, 0, 0);
        x.slipper(1, 4, 0);
        x.image(false);
        t.due("LEFT as then, by CELLS", x.left(), 7);
        x.slipper(-1, 0, 0);
        x.slipper(0, 2, 0);
        x.image(false);
        t.due("LEFT as then, by days", x.left(), 7);
    }

    @Sentence(of = "Terms 4", says = "THE IMAGE: all that is and was told but the TAPE, fault() and what can be undone (nothing then), as it was when it was taken;")
    static void imageOfCaptives(Due t) {
        // Since when he is a CAPTIVE goes back, too.
        OldestDown x = Due.war(0, 70, 9, 1, 70, 9);
        x.set(5, 0, 20);
        Due.tell(x, 0, "step 9 when day < 1; step 9 when country = 0; step 0;");
        x.days(1);
        t.due("CAPTIVE", x.of(0, 6), 2);
        x.image(true);
        x.days(4);
        t.due("CAPTIVE anew", x.of(0, 6), 2);
        t.due("on DAY 4", x.book(4, 0), 4);
        x.image(false);
        x.days(2);
        t.due("kept on DAY 2", x.of(0, 6), 2);
        x.days(1);
        t.due("HOME on DAY 3", x.of(0, 6), 0);
        x.days(1);
        x.undo();
        x.undo();
        t.due("kept on DAY 2", x.of(0, 6), 2);
        x.days(1);
        t.due("HOME on DAY 3", x.of(0, 6), 0);
    }

    @Sentence(of = "Terms 4", says = "but the TAPE, fault() and what can be undone (nothing then),")
    static void imageHasNoTape(Due t) {
        OldestDown x = front();
        Due.feed(x, "nap 1");
        x.image(true);
        t.due("the FAULT of the TAPE that was", x.text(0), -1);
        Due.feed(x, "nap 3;");
        x.image(false);
        t.due("fault(0) stays", x.fault(0), 1);
        t.due("fault(1) stays", x.fault(1), 5);
        t.due("the TAPE stays", x.text(0), 1);
        t.due("nap", x.of(0, 12), 3);
    }

    @Sentence(of = "Terms 4", says = "and what can be undone (nothing then),")
    static void imageHasNothingToUndo(Due t) {
        OldestDown x = front();
        x.days(3);
        x.image(true);
        t.due("at its taking", x.look(14), 3);
        x.teach(2, 7);
        x.image(false);
        t.due("gone back", x.look(14), 0);
        t.due("undo", x.undo(), false);
        t.due("DAY", x.look(1), 3);
        x.teach(2, 7);
        t.due("undo", x.undo(), true);
        t.due("undo", x.undo(), false);
    }

    @Sentence(of = "Terms 4", says = "gone back to it may be more than once.")
    static void imageMoreThanOnce(Due t) {
        OldestDown x = front();
        x.days(2);
        String was = Due.all(x);
        x.image(true);
        for (int i = 0; i < 3; i++) {
            x.days(1 + i);
            x.set(5, 0, i);
            t.due("gone back", x.image(false), true);
            t.same("gone back", Due.all(x), was);
        }
    }

    @Sentence(of = "Terms 4", says = "as it was when it was taken;")
    static void imageTakenTwice(Due t) {
        OldestDown x = front();
        x.image(true);
        x.teach(2, 4);
        x.image(true);
        x.teach(2, 5);
        x.image(false);
        t.due("the latest one taken", x.of(2, 4), 16);
    }

    @Sentence(of = "Terms 4", says = "as it was when it was taken;")
    static void imageOfNewObject(Due t) {
        OldestDown x = new OldestDown();
        x.image(true);
        for (int m = 0; m < 12; m++) x.man(0, 60, 3);
        x.set(0, 0, 9);
        x.image(false);
        t.due("MEN", x.look(0), 0);
        t.due("KEEP", x.look(3), 1);
        t.due("a MAN", x.man(1, 50, 2), 0);
        t.due("he KNOWS", x.of(0, 4), 0);
        t.due("those whom he tells", x.of(0, 8), 0);
    }

    // ---- Promises 29 and 30

    @Sentence(of = "Promise 29", says = "UNDO: true;")
    static void promiseOfUndo(Due t) {
        OldestDown x = front();
        x.teach(2, 7);
        x.days(1);
        t.due("the DAY", x.undo(), true);
        t.due("the TEACHING", x.undo(), true);
        t.due("what can be undone", x.look(14), 0);
    }

    @Sentence(of = "Promise 29", says = "false if there is nothing.")
    static void undoesNothing(Due t) {
        OldestDown x = new OldestDown();
        t.due("a new one", x.undo(), false);
        OldestDown y = front();
        String was = Due.all(y);
        t.due("nothing since", y.undo(), false);
        t.same("nothing", Due.all(y), was);
    }

    @Sentence(of = "Promise 30", says = "THE IMAGE is taken (true), or gone back to (false): true;")
    static void promiseOfImage(Due t) {
        OldestDown x = front();
        t.due("taken", x.image(true), true);
        x.days(1);
        t.due("gone back to", x.image(false), true);
        t.due("DAY", x.look(1), 0);
        t.due("taken again", x.image(true), true);
    }

    @Sentence(of = "Promise 30", says = "false if there is none.")
    static void noImage(Due t) {
        OldestDown x = front();
        x.teach(2, 7);
        String was = Due.all(x);
        t.due("none yet", x.image(false), false);
        t.same("nothing changes", Due.all(x), was);
        t.due("what can be undone", x.look(14), 1);
    }
}
