/** What the tests share: counts answers that are not due, and tells men and texts. */
final class Due {
    private int wrong;

    int wrong() {
        return wrong;
    }

    void due(String what, long got, long want) {
        if (got != want) {
            wrong++;
            System.out.println("    " + what + " answered " + got + ", due is " + want);
        }
    }

    void due(String what, boolean got, boolean want) {
        due(what, got ? 1 : 0, want ? 1 : 0);
    }

    /** That two snapshots are the same. */
    void same(String what, String got, String want) {
        due(what + ": the same as before", got.equals(want), true);
        if (!got.equals(want)) System.out.println("    " + got + "\n    " + want);
    }

    /** What the calls tell of an object as it stands, but for what can be undone. */
    static String all(OldestDown x) {
        int men = x.look(0);
        int lines = x.look(7);
        StringBuilder s = new StringBuilder("men");
        for (int m = 0; m < men; m++) {
            s.append(" /");
            for (int what = 0; what < 14; what++) s.append(' ').append(x.of(m, what));
        }
        s.append(" countries");
        for (int c = 0; c < 2; c++) for (int what = 0; what < 5; what++) s.append(' ').append(x.country(c, what));
        s.append(" weights");
        for (int f = 0; f < 8; f++) s.append(' ').append(x.weight(f));
        s.append(" look");
        for (int what = 0; what < 14; what++) s.append(' ').append(x.look(what));
        s.append(" book");
        for (int i = 0; i < lines; i++) for (int what = 0; what < 4; what++) s.append(' ').append(x.book(i, what));
        return s.append(" left ").append(x.left()).toString();
    }

    void where(OldestDown x, int m, int where, int cell, int breath) {
        due("where " + m, x.of(m, 6), where);
        due("cell " + m, x.of(m, 7), cell);
        due("breath " + m, x.of(m, 3), breath);
    }

    /** Line i of THE BOOK: DAY, what, MAN, number. */
    void line(OldestDown x, int i, int... dues) {
        for (int what = 0; what < 4; what++) due("book(" + i + ", " + what + ")", x.book(i, what), dues[what]);
    }

    static OldestDown men(int... countryAgeLegs) {
        OldestDown x = new OldestDown();
        for (int i = 0; i + 2 < countryAgeLegs.length; i += 3) {
            x.man(countryAgeLegs[i], countryAgeLegs[i + 1], countryAgeLegs[i + 2]);
        }
        return x;
    }

    /** KEEP 0 lets WAR last as long as nobody comes through. */
    static OldestDown war(int... countryAgeLegs) {
        OldestDown x = men(countryAgeLegs);
        x.set(0, 0, 0);
        return x;
    }

    /** So many MEN of COUNTRIES 0, 1, 0, 1 .. */
    static OldestDown many(int men) {
        OldestDown x = new OldestDown();
        for (int m = 0; m < men; m++) x.man(m % 2, 60, 3);
        return x;
    }

    /** Puts a text on the TAPE behind what it has. */
    static void feed(OldestDown x, String text) {
        int has = 0;
        for (int i = 0; i < text.length(); i += 20) {
            int[] five = new int[5];
            for (int j = 0; j < 20; j++) {
                int b = i + j < text.length() ? text.charAt(i + j) : ' ';
                five[j / 4] = five[j / 4] << 8 | b;
            }
            has = x.feed(five[0], five[1], five[2], five[3], five[4]);
        }
        if (!text.isEmpty()) {
            x.end(has - (20 - text.length() % 20) % 20);
        }
    }

    static int tell(OldestDown x, int k, String text) {
        x.end(0);
        feed(x, text);
        return x.text(k);
    }

    static String times(int n, String part) {
        StringBuilder s = new StringBuilder();
        for (int i = 0; i < n; i++) s.append(part);
        return s.toString();
    }

    private static final String[] TOLD = {"nap 5;", "0 tells 1;", "fact 1 weighs 2;", "on 0 rest 1;"};

    /** That TEXT k of a new object with four MEN has a FAULT at a place, and that the TEXT stays as it was. */
    void faulty(int k, String text, int fault, int place) {
        OldestDown x = many(4);
        tell(x, k, TOLD[k]);
        String was = all(x);
        due("text(" + k + ") of " + text, tell(x, k, text), OldestDown.NONE);
        due("fault(0) of " + text, x.fault(0), fault);
        due("fault(1) of " + text, x.fault(1), place);
        same("TEXT " + k + " behind " + text, all(x), was);
        due("TAPE behind " + text + " has a byte", x.end(1), false);
    }

    /** That TEXT k of four MEN has so many lines and no FAULT. */
    void faultless(int k, String text, int lines) {
        OldestDown x = many(4);
        due("text(" + k + ") of " + text, tell(x, k, text), lines);
        due("fault(0) of " + text, x.fault(0), 0);
        due("lines behind " + text, x.look(9 + k), lines);
    }
}
