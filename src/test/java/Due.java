/** What the tests share: counts answers that are not due, and tells texts. */
final class Due {
    private int wrong;

    void due(String what, long got, long want) {
        if (got != want) {
            wrong++;
            System.out.println(what + " answered " + got + ", due is " + want);
        }
    }

    void due(String what, boolean got, boolean want) {
        due(what, got ? 1 : 0, want ? 1 : 0);
    }

    void end() {
        if (wrong != 0) {
            System.out.println(wrong + " answers are not as due");
            System.exit(1);
        }
    }

    static OldestDown men(int... countryAgeLegs) {
        OldestDown x = new OldestDown();
        for (int i = 0; i + 2 < countryAgeLegs.length; i += 3) {
            x.man(countryAgeLegs[i], countryAgeLegs[i + 1], countryAgeLegs[i + 2]);
        }
        return x;
    }

    /** KEEP 0 lets WAR last as long as nobody comes through. */
    static OldestDown war(int... countryAgeLegs) {
        OldestDown x = men(countryAgeLegs);
        x.set(0, 0, 0);
        return x;
    }

    /** Puts a text on the TAPE behind what it has. */
    static void feed(OldestDown x, String text) {
        int has = 0;
        for (int i = 0; i < text.length(); i += 20) {
            int[] five = new int[5];
            for (int j = 0; j < 20; j++) {
                int b = i + j < text.length() ? text.charAt(i + j) : ' ';
                five[j / 4] = five[j / 4] << 8 | b;
            }
            has = x.feed(five[0], five[1], five[2], five[3], five[4]);
        }
        if (!text.isEmpty()) {
            x.end(has - (20 - text.length() % 20) % 20);
        }
    }

    static int tell(OldestDown x, int k, String text) {
        x.end(0);
        feed(x, text);
        return x.text(k);
    }

    /** That a text has a FAULT at a place, and that it changes nothing. */
    void faulty(OldestDown x, int k, String text, int fault, int place) {
        int lines = x.look(9 + k);
        due("text(" + k + ") of " + text, tell(x, k, text), -1);
        due("fault(0) of " + text, x.fault(0), fault);
        due("fault(1) of " + text, x.fault(1), place);
        due("lines behind " + text, x.look(9 + k), lines);
        due("TAPE behind " + text, x.end(1), false);
    }
}
