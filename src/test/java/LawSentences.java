/** Terms 2: what THE LAW tells of a MAN. */
final class LawSentences {
    private static final int CALL = 10;
    private static final int STEP = 11;
    private static final int NAP = 12;
    private static final int FADE = 13;

    @Sentence(of = "Terms 2", says = {"What THE LAW tells of a MAN for a word:",
        "E of the first line with that word whose B is so, or that has none"})
    static void firstLineThatIsSo(Due t) {
        OldestDown x = Due.men(0, 77, 6, 1, 70, 5);
        Due.tell(x, 0, "step 1 when country = 1; nap 9; step 2 when age > 80; call 5 when age = 70; step 3 when legs = 6; step 4;");
        t.due("not his COUNTRY, not his AGE, his LEGS", x.of(0, STEP), 3);
        t.due("his COUNTRY", x.of(1, STEP), 1);
        t.due("his AGE", x.of(1, CALL), 5);
        t.due("of another word's line", x.of(1, NAP), 9);
    }

    @Sentence(of = "Terms 2", says = "E of the first line with that word whose B is so, or that has none")
    static void firstLineWithoutB(Due t) {
        OldestDown x = Due.men(0, 77, 6);
        Due.tell(x, 0, "step 8; step 1;");
        t.due("the first, not the last", x.of(0, STEP), 8);
        Due.tell(x, 0, "step 2; step 1 when 1 = 1;");
        t.due("one without B ahead of one that is so", x.of(0, STEP), 2);
        Due.tell(x, 0, Due.times(15, "step 3 when 1=2;") + "step 4;");
        t.due("the 16th", x.of(0, STEP), 4);
    }

    @Sentence(of = "Terms 2", says = "E of the first line with that word whose B is so, or that has none")
    static void lastOfSixteenLinesWithB(Due t) {
        OldestDown x = Due.men(0, 77, 6);
        t.due("lines", Due.tell(x, 0, Due.times(15, "nap 1when 1=2;") + "nap 1+2*3when 1+2*3=7;"), 16);
        t.due("the 16th", x.of(0, NAP), 7);
    }

    @Sentence(of = "Terms 2", says = "E of the first line with that word whose B is so, or that has none")
    static void longLawsOneBehindAnother(Due t) {
        OldestDown x = Due.men(0, 77, 6);
        for (int i = 1; i <= 4; i++) {
            t.due("lines", Due.tell(x, 0, "nap 9+" + Due.times(196, "0+") + i + ";"), 1);
            t.due("the longest", x.of(0, NAP), 9 + i);
            t.due("lines", Due.tell(x, 0, "nap 3 when age = 77; nap 4;"), 2);
            t.due("a short one", x.of(0, NAP), 3);
        }
    }

    @Sentence(of = "Terms 2", says = "(none: call: AGE less 59, step: LEGS, nap 0, fade 50),")
    static void noLine(Due t) {
        int[] ages = {0, 58, 59, 60, 120};
        int[] calls = {0, 0, 0, 1, 61};
        OldestDown x = new OldestDown();
        for (int m = 0; m < ages.length; m++) {
            x.man(m % 2, ages[m], 5 + m);
            t.due("call at " + ages[m], x.of(m, CALL), calls[m]);
            t.due("step", x.of(m, STEP), 5 + m);
            t.due("nap", x.of(m, NAP), 0);
            t.due("fade", x.of(m, FADE), 50);
        }
    }

    @Sentence(of = "Terms 2", says = "(none: call: AGE less 59, step: LEGS, nap 0, fade 50),")
    static void noLineThatIsSo(Due t) {
        OldestDown x = Due.men(0, 77, 6);
        Due.tell(x, 0, "call 1 when 1 = 2; step 1 when 1 = 2; nap 1 when 1 = 2; fade 1 when 1 = 2;");
        t.due("call", x.of(0, CALL), 18);
        t.due("step", x.of(0, STEP), 6);
        t.due("nap", x.of(0, NAP), 0);
        t.due("fade", x.of(0, FADE), 50);
        Due.tell(x, 0, "call 1;");
        t.due("call", x.of(0, CALL), 1);
        t.due("step, of which no line tells", x.of(0, STEP), 6);
    }

    private static void held(Due t, String word, int what, int most) {
        OldestDown x = Due.men(0, 77, 6);
        String[] es = {"0", "0 - 1", "4096*4096*128", most + "", most + " - 1", most + " + 1", "9999", "4096*4096*128 - 1"};
        int[] dues = {0, 0, 0, most, most - 1, most, most, most};
        for (int i = 0; i < es.length; i++) {
            Due.tell(x, 0, word + " " + es[i] + ";");
            t.due(word + " " + es[i], x.of(0, what), dues[i]);
        }
    }

    @Sentence(of = "Terms 2", says = "call held to 0 .. 120,")
    static void callIsHeld(Due t) {
        held(t, "call", CALL, 120);
    }

    @Sentence(of = "Terms 2", says = "call held to 0 .. 120,")
    static void heldCallsAreAlike(Due t) {
        OldestDown x = Due.war(0, 60, 1, 0, 90, 1);
        Due.tell(x, 0, "call 200 when age = 60; call 120;");
        x.days(1);
        t.due("alike, so the oldest", x.book(0, 2), 1);
    }

    @Sentence(of = "Terms 2", says = "step to 0 .. 9,")
    static void stepIsHeld(Due t) {
        held(t, "step", STEP, 9);
    }

    @Sentence(of = "Terms 2", says = "step to 0 .. 9,")
    static void heldStepIsGone(Due t) {
        OldestDown x = Due.war(0, 60, 1, 1, 60, 1);
        Due.tell(x, 0, "step 10 when country = 0; step 0 - 1;");
        x.days(1);
        t.due("9 CELLS", x.of(0, 7), 9);
        t.due("none", x.of(1, 7), 15);
    }

    @Sentence(of = "Terms 2", says = "nap to 0 .. 99,")
    static void napIsHeld(Due t) {
        held(t, "nap", NAP, 99);
    }

    @Sentence(of = "Terms 2", says = "fade to 0 .. 1000:")
    static void fadeIsHeld(Due t) {
        held(t, "fade", FADE, 1000);
    }

    @Sentence(of = "Terms 2", says = "country; age; legs; breath: BREATH;")
    static void namesOfWhatHeIs(Due t) {
        OldestDown x = Due.men(1, 77, 6, 0, 120, 9);
        x.set(5, 0, 44);
        x.set(5, 1, 0);
        fade(t, x, "country", 1, 0);
        fade(t, x, "age", 77, 120);
        fade(t, x, "legs", 6, 9);
        fade(t, x, "breath", 44, 0);
        x.set(5, 1, 99);
        fade(t, x, "breath", 44, 99);
    }

    /** What THE LAW tells of MEN 0 and 1 for fade. */
    private static void fade(Due t, OldestDown x, String e, int due0, int due1) {
        Due.tell(x, 0, "fade " + e + ";");
        t.due("fade of 0 by " + e, x.of(0, FADE), due0);
        t.due("fade of 1 by " + e, x.of(1, FADE), due1);
    }

    @Sentence(of = "Terms 2", says = "facts: how many he KNOWS;")
    static void nameOfHowManyHeKnows(Due t) {
        OldestDown x = Due.men(1, 77, 6, 0, 120, 9);
        fade(t, x, "facts", 0, 0);
        x.teach(0, 7);
        x.teach(0, 4);
        x.teach(0, 1);
        for (int f = 0; f < 8; f++) x.teach(1, f);
        fade(t, x, "facts", 3, 8);
    }

    /** MAN 0 IN THE FIELD at CELL 9, who beat MAN 1 there, a CAPTIVE now; MAN 2 at HOME. */
    private static OldestDown withCaptive() {
        OldestDown x = Due.war(0, 70, 9, 1, 70, 9, 0, 20, 1);
        x.set(5, 1, 40);
        Due.tell(x, 0, "step 9 when day = 0; step 0;");
        x.days(1);
        return x;
    }

    @Sentence(of = "Terms 2", says = "cell: his CELL (not IN THE FIELD: 0);")
    static void nameOfHisCell(Due t) {
        OldestDown x = withCaptive();
        fade(t, x, "cell", 9, 0);
        t.due("at HOME", x.of(2, FADE), 0);
    }

    @Sentence(of = "Terms 2", says = "cell: his CELL (not IN THE FIELD: 0);")
    static void nameOfHisCellUntilPeace(Due t) {
        OldestDown x = Due.war(0, 70, 4, 1, 20, 1);
        x.days(1);
        fade(t, x, "cell", 4, 0);
        x.days(3);
        t.due("peace", x.look(2), 0);
        fade(t, x, "cell", 0, 0);
        OldestDown y = Due.war(0, 20, 4, 1, 70, 1);
        y.days(1);
        fade(t, y, "cell", 0, 14);
    }

    @Sentence(of = "Terms 2", says = "day: DAY;")
    static void nameOfTheDay(Due t) {
        OldestDown x = Due.war(0, 20, 4, 1, 20, 1);
        fade(t, x, "day", 0, 0);
        x.days(60);
        fade(t, x, "day", 60, 60);
    }

    @Sentence(of = "Terms 2", says = "rain: RAIN;")
    static void nameOfRain(Due t) {
        OldestDown x = Due.men(0, 20, 4, 1, 20, 1);
        fade(t, x, "rain", 0, 0);
        x.set(1, 0, 8);
        fade(t, x, "rain", 8, 8);
    }

    @Sentence(of = "Terms 2", says = "hill: 1, if his CELL is one (not IN THE FIELD: 0), else 0.")
    static void nameOfHisHill(Due t) {
        OldestDown x = withCaptive();
        fade(t, x, "hill", 0, 0);
        x.set(4, 9, 1);
        fade(t, x, "hill", 1, 0);
        x.set(4, 0, 1);
        x.set(4, 15, 1);
        t.due("at HOME", x.of(2, FADE), 0);
        x.set(4, 9, 0);
        fade(t, x, "hill", 0, 0);
    }

    @Sentence(of = "Terms 2", says = "hill: 1, if his CELL is one (not IN THE FIELD: 0), else 0.")
    static void hillsAtBothEnds(Due t) {
        OldestDown x = Due.war(0, 70, 4, 1, 70, 4);
        x.set(4, 0, 1);
        x.set(4, 15, 1);
        Due.tell(x, 0, "step 0;");
        x.days(1);
        fade(t, x, "hill", 1, 1);
        fade(t, x, "cell", 0, 15);
    }
}
