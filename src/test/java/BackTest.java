/** Promises 29 to 31: what goes back, THE IMAGE, and a look at it all. */
final class BackTest {
    private static final Due t = new Due();

    public static void main(String[] args) {
        undoesDays();
        undoesPeace();
        undoesTeaching();
        undoesSending();
        sixAreKept();
        afterUndoing();
        forgetsWhatCanBeUndone();
        keepsWhatCanBeUndone();
        refusedForgetsNothing();
        undoesUnderNewLaw();
        image();
        imageHoldsTexts();
        imageHoldsNot();
        imageHoldsTheBook();
        imageHoldsSlippers();
        imageHoldsCaptives();
        imageTwice();
        look();
        t.end();
    }

    private static OldestDown front() {
        OldestDown x = new OldestDown();
        x.man(0, 80, 4);
        x.man(1, 80, 4);
        x.man(0, 90, 2);
        x.teach(0, 1);
        x.teach(0, 2);
        x.teach(1, 3);
        x.state(2020);
        return x;
    }

    /** All that calls tell of it, as one text. */
    private static String all(OldestDown x) {
        StringBuilder s = new StringBuilder();
        for (int m = 0; m < 12; m++) for (int what = 0; what < 14; what++) s.append(x.of(m, what)).append(' ');
        for (int c = 0; c < 2; c++) for (int what = 0; what < 5; what++) s.append(x.country(c, what)).append(' ');
        for (int f = 0; f < 8; f++) s.append(x.weight(f)).append(' ');
        for (int what = 0; what < 14; what++) s.append(x.look(what)).append(' ');
        for (int i = 0; i < 20; i++) for (int what = 0; what < 4; what++) s.append(x.book(i, what)).append(' ');
        return s.append(x.left()).toString();
    }

    private static void same(String what, String got, String want) {
        t.due(what, got.equals(want), true);
        if (!got.equals(want)) System.out.println(got + "\n" + want);
    }

    private static void undoesDays() {
        OldestDown x = front();
        x.set(4, 3, 1);
        Due.tell(x, 1, "0 tells 2;");
        Due.tell(x, 0, "fade 400;");
        String[] were = new String[7];
        for (int d = 0; d < 6; d++) {
            were[d] = all(x);
            int war = x.look(2);
            t.due("a day", x.days(1), war);
        }
        t.due("to be undone", x.look(14), 6);
        for (int d = 5; d >= 0; d--) {
            t.due("undo", x.undo(), true);
            same("as on day " + d, all(x), were[d]);
            t.due("to be undone", x.look(14), d);
        }
        t.due("no more", x.undo(), false);
        same("nothing changes", all(x), were[0]);
        x.days(4);
        t.due("each day by itself", x.look(14), 4);
        for (int d = 3; d >= 0; d--) x.undo();
        same("again as it was", all(x), were[0]);
    }

    private static void undoesPeace() {
        OldestDown x = new OldestDown();
        x.days(1);
        t.due("peace", x.look(2), 0);
        x.undo();
        t.due("war", x.look(2), 1);
        t.due("book", x.look(7), 0);
        t.due("no such line", x.book(0, 0), -2);
        t.due("day", x.look(1), 0);
    }

    private static void undoesTeaching() {
        OldestDown x = front();
        String was = all(x);
        x.teach(2, 7);
        t.due("knows", x.of(2, 4), 128);
        t.due("undo", x.undo(), true);
        same("as it was", all(x), was);
    }

    private static void undoesSending() {
        OldestDown x = front();
        x.set(3, 0, 1);
        Due.tell(x, 0, "call 1 when age = 80; call 0; fade 0;");
        x.days(1);
        x.set(6, 0, 70);
        String was = all(x);
        t.due("send", x.send(2, 0, 33), true);
        t.due("he is there", x.of(2, 7), 4);
        t.due("undo", x.undo(), true);
        same("as it was", all(x), was);
        t.due("no more", x.undo(), false);
    }

    private static void sixAreKept() {
        OldestDown x = front();
        for (int f = 0; f < 8; f++) x.teach(2, f);
        t.due("six of eight", x.look(14), 6);
        for (int i = 0; i < 6; i++) t.due("undo", x.undo(), true);
        t.due("no more", x.undo(), false);
        t.due("two stay", x.of(2, 4), 3);
        x.days(60);
        t.due("six of sixty", x.look(14), 6);
        for (int i = 0; i < 6; i++) x.undo();
        t.due("day", x.look(1), 54);
        t.due("no more", x.undo(), false);
    }

    private static void afterUndoing() {
        OldestDown x = front();
        x.teach(2, 0);
        x.days(2);
        x.undo();
        x.teach(2, 5);
        x.days(1);
        t.due("to be undone", x.look(14), 4);
        x.undo();
        x.undo();
        t.due("knows", x.of(2, 4) & 32, 0);
        t.due("day", x.look(1), 1);
        x.undo();
        x.undo();
        t.due("knows", x.of(2, 4), 0);
        t.due("day", x.look(1), 0);
        t.due("no more", x.undo(), false);
    }

    private static void forgetsWhatCanBeUndone() {
        for (int k = 0; k < 13; k++) {
            OldestDown x = front();
            x.teach(2, 0);
            x.days(1);
            t.due("to be undone", x.look(14), 2);
            switch (k) {
                case 7: x.state(x.look(8)); break;
                case 8: x.man(0, 1, 1); break;
                case 9: Due.tell(x, 1, ""); break;
                case 10: Due.tell(x, 3, "on 1 go 0;"); break;
                case 11: x.image(true); x.image(false); break;
                case 12: Due.tell(x, 1, "0 tells 1;"); break;
                default: x.set(k, 0, k == 4 ? 0 : 1); break;
            }
            t.due("forgotten by " + k, x.look(14), 0);
            t.due("no undo behind " + k, x.undo(), false);
        }
    }

    private static void keepsWhatCanBeUndone() {
        OldestDown x = front();
        x.teach(2, 0);
        Due.tell(x, 0, "nap 1;");
        Due.tell(x, 2, "fact 1 weighs 2;");
        x.slipper(1, 1, 1);
        x.slipper(-1, 0, 0);
        x.slipper(2, 2, 2);
        x.image(true);
        Due.feed(x, "abc");
        x.end(1);
        x.lasts(0);
        x.soonest(0, 0);
        x.from(0);
        t.due("to be undone", x.look(14), 1);
        t.due("undo", x.undo(), true);
        t.due("undone", x.of(2, 4), 0);
        t.due("the law stays told", x.of(2, 12), 1);
        t.due("the weights stay told", x.weight(1), 2);
        t.due("the slipper stays", x.look(13), 1);
    }

    private static void refusedForgetsNothing() {
        OldestDown x = front();
        x.teach(2, 0);
        x.man(2, 1, 1);
        x.set(0, 0, 100);
        x.set(9, 0, 0);
        x.teach(2, 0);
        x.teach(2, 8);
        x.send(0, 0, 0);
        x.days(0);
        Due.tell(x, 1, "0 tells 0;");
        Due.tell(x, 3, "on");
        Due.tell(x, 4, "");
        x.image(false);
        t.due("to be undone", x.look(14), 1);
    }

    private static void undoesUnderNewLaw() {
        OldestDown x = front();
        x.days(1);
        t.due("cell", x.of(2, 7), 2);
        Due.tell(x, 0, "step 1;");
        x.undo();
        x.days(1);
        t.due("cell by the new law", x.of(2, 7), 1);
    }

    private static void image() {
        OldestDown x = front();
        t.due("none yet", x.image(false), false);
        x.days(3);
        x.slipper(3, 3, 3);
        String was = all(x);
        t.due("taken", x.image(true), true);
        t.due("what can be undone stays", x.look(14), 3);
        x.set(0, 0, 5);
        x.set(1, 0, 5);
        x.set(2, 0, 5);
        x.set(3, 0, 5);
        x.set(4, 5, 1);
        x.set(5, 0, 5);
        x.set(6, 0, 5);
        x.man(0, 99, 9);
        x.days(9);
        x.state(1);
        x.slipper(-1, 0, 0);
        t.due("gone back", x.image(false), true);
        same("as it was", all(x), was);
        t.due("nothing to be undone", x.look(14), 0);
        t.due("no undo", x.undo(), false);
        x.days(5);
        t.due("gone back once more", x.image(false), true);
        same("as it was", all(x), was);
    }

    private static void imageHoldsTexts() {
        OldestDown x = front();
        String[] texts = {"nap 7; step 2; fade 9;", "0 tells 1; 2 tells 0;", "fact 2 weighs 7;", "on 0 rest 1; on 0 rest 0;"};
        for (int k = 0; k < 4; k++) Due.tell(x, k, texts[k]);
        String was = all(x);
        x.image(true);
        for (int k = 0; k < 4; k++) Due.tell(x, k, "");
        t.due("nap", x.of(0, 12), 0);
        x.image(false);
        same("as it was", all(x), was);
        t.due("nap", x.of(0, 12), 7);
        t.due("tells", x.of(2, 8), 1);
        t.due("weight", x.weight(2), 7);
        t.due("rest", x.country(1, 4), 1);
    }

    private static void imageHoldsNot() {
        OldestDown x = front();
        Due.feed(x, "nap 1");
        x.image(true);
        x.text(0);
        t.due("fault", x.fault(0), 1);
        t.due("place", x.fault(1), 5);
        Due.feed(x, "nap 3;");
        x.image(false);
        t.due("fault stays", x.fault(0), 1);
        t.due("place stays", x.fault(1), 5);
        t.due("the tape stays", x.text(0), 1);
        t.due("nap", x.of(0, 12), 3);
    }

    /** Undoing goes behind the image, other DAYS are led to THE BOOK. */
    private static void imageHoldsTheBook() {
        OldestDown x = front();
        Due.tell(x, 0, "fade 1000;");
        x.days(2);
        String was = all(x);
        x.image(true);
        x.undo();
        x.undo();
        Due.tell(x, 0, "call 1 when age = 80; fade 0;");
        x.days(4);
        x.image(false);
        same("as it was", all(x), was);
    }

    private static void imageHoldsSlippers() {
        OldestDown x = front();
        x.slipper(1, 4, 0);
        x.slipper(2, 3, 4);
        t.due("left", x.left(), 3);
        x.image(true);
        x.slipper(-1, 0, 0);
        x.slipper(2, 2, 2);
        x.slipper(3, 3, 2);
        t.due("left", x.left(), 4);
        x.image(false);
        t.due("left", x.left(), 3);
        x.slipper(-1, 0, 0);
        x.slipper(1, 2, 0);
        x.image(true);
        x.slipper(-1, 0, 0);
        x.slipper(1, 4, 0);
        x.image(false);
        t.due("left", x.left(), 7);
        x.slipper(-1, 0, 0);
        x.slipper(0, 2, 0);
        x.image(false);
        t.due("left", x.left(), 7);
    }

    /** Since when he is a CAPTIVE goes back, too. */
    private static void imageHoldsCaptives() {
        OldestDown x = new OldestDown();
        x.man(0, 70, 9);
        x.man(1, 70, 9);
        x.set(0, 0, 0);
        x.set(5, 0, 20);
        Due.tell(x, 0, "step 9 when day < 1; step 9 when country = 0; step 0;");
        x.days(1);
        t.due("captive", x.of(0, 6), 2);
        x.image(true);
        x.days(4);
        t.due("captive anew", x.of(0, 6), 2);
        t.due("on day 4", x.book(4, 0), 4);
        x.image(false);
        x.days(2);
        t.due("yet on day 2", x.of(0, 6), 2);
        x.days(1);
        t.due("home on day 3", x.of(0, 6), 0);
        x.days(1);
        x.undo();
        x.undo();
        t.due("yet on day 2", x.of(0, 6), 2);
        x.days(1);
        t.due("home on day 3", x.of(0, 6), 0);
    }

    private static void imageTwice() {
        OldestDown x = front();
        x.image(true);
        x.teach(2, 4);
        x.image(true);
        x.teach(2, 5);
        x.image(false);
        t.due("the latest taken", x.of(2, 4), 16);
    }

    private static void look() {
        OldestDown x = front();
        x.set(0, 0, 1);
        x.set(1, 0, 6);
        x.set(2, 0, 17);
        x.set(4, 9, 1);
        Due.tell(x, 0, "nap 0; fade 0;");
        Due.tell(x, 1, "0 tells 2; 1 tells 0; 2 tells 0;");
        Due.tell(x, 2, "fact 1 weighs 2; fact 1 weighs 2; fact 1 weighs 2; fact 1 weighs 2;");
        Due.tell(x, 3, "on 77 go 0;");
        x.slipper(1, 1, 1);
        x.slipper(1, 1, 1);
        x.days(1);
        int s = 2020;
        for (int i = 0; i < 2; i++) s = s * 1664525 + 1013904223;
        int[] due = {3, 1, 1, 1, 6, 17, 512, 2, s, 2, 3, 4, 1, 2, 1};
        for (int i = 0; i < due.length; i++) t.due("look " + i, x.look(i), due[i]);
        for (int what : new int[] {-1, 15, Integer.MIN_VALUE, Integer.MAX_VALUE}) t.due("another what", x.look(what), -1);
    }
}
