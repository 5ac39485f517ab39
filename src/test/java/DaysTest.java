/** Promises 7, 14 and 15: DAYS that go by, and THE BOOK that is led of them. */
final class DaysTest {
    private static final Due t = new Due();

    public static void main(String[] args) {
        called();
        calledAlike();
        calledOfBoth();
        hills();
        naps();
        rests();
        bounds();
        alikeFight();
        beaten();
        fightInTheMiddle();
        winnersOutOfBreath();
        peaceOfTheOther();
        guardedEnd();
        teaTime();
        peaceBeforeTea();
        keep();
        keepByWeights();
        tellsOn();
        tellsOnlyAtHome();
        draws();
        forgetsLeast();
        inPeace();
        fullBook();
        lastDays();
        countries();
        t.end();
    }

    private static void line(OldestDown x, int i, int... due) {
        for (int what = 0; what < 4; what++) t.due("book " + i + " " + what, x.book(i, what), due[what]);
    }

    private static void where(OldestDown x, int m, int where, int cell, int breath) {
        t.due("where " + m, x.of(m, 6), where);
        t.due("cell " + m, x.of(m, 7), cell);
        t.due("breath " + m, x.of(m, 3), breath);
    }

    private static void called() {
        OldestDown x = Due.war(0, 70, 1, 0, 80, 1, 0, 80, 1, 0, 58, 1, 0, 59, 1);
        t.due("war", x.days(1), 1);
        line(x, 0, 0, 0, 1, 0);
        t.due("one a day", x.look(7), 1);
        where(x, 1, 1, 1, 50);
        x.days(1);
        line(x, 1, 1, 0, 2, 0);
        x.days(2);
        t.due("no more than wanted", x.look(7), 2);
        t.due("in field", x.country(0, 0), 2);
        x.set(3, 0, 9);
        x.days(3);
        line(x, 2, 4, 0, 0, 0);
        t.due("call 0 isn't called", x.look(7), 3);
        Due.tell(x, 0, "call legs;");
        x.days(1);
        line(x, 3, 7, 0, 4, 0);
        x.set(3, 0, 0);
        x.days(1);
        t.due("nobody goes home for want", x.country(0, 0), 4);
    }

    private static void calledAlike() {
        OldestDown x = Due.war(0, 60, 1, 0, 90, 1, 0, 90, 1, 0, 91, 1);
        Due.tell(x, 0, "call 200 when age < 91; call 119; step 0;");
        x.set(3, 0, 9);
        x.days(4);
        int[] due = {1, 2, 0, 3};
        for (int i = 0; i < 4; i++) line(x, i, i, 0, due[i], 0);
    }

    private static void calledOfBoth() {
        OldestDown x = Due.war(1, 99, 1, 0, 70, 1);
        x.days(1);
        line(x, 0, 0, 0, 1, 0);
        line(x, 1, 0, 0, 0, 15);
        where(x, 0, 1, 14, 50);
        where(x, 1, 1, 1, 50);
    }

    private static void hills() {
        OldestDown x = Due.war(0, 70, 4, 1, 70, 4);
        x.set(4, 2, 1);
        x.set(4, 4, 1);
        x.set(4, 11, 1);
        x.set(3, 1, 0);
        x.days(1);
        where(x, 0, 1, 3, 50);
        x.days(1);
        where(x, 0, 1, 6, 50);
        x.set(3, 1, 1);
        x.days(1);
        where(x, 1, 1, 12, 50);
        Due.tell(x, 0, "step 1 when country = 1; step 0;");
        x.days(2);
        where(x, 1, 1, 12, 50);
        Due.tell(x, 0, "step 2 when country = 1; step 0;");
        x.days(1);
        where(x, 1, 1, 11, 50);
        OldestDown y = Due.war(1, 70, 5);
        y.set(4, 0, 1);
        y.set(4, 15, 1);
        y.days(3);
        where(y, 0, 1, 1, 50);
        t.due("the end is a hill", y.look(2), 1);
    }

    private static void naps() {
        OldestDown x = Due.war(0, 70, 4, 1, 70, 4);
        Due.tell(x, 0, "nap 30 when breath < 80 and country = 0; nap 30 * hill; step 1 + breath / 99;");
        x.set(4, 13, 1);
        x.days(2);
        where(x, 0, 1, 1, 80);
        where(x, 1, 1, 14, 50);
        x.set(5, 1, 99);
        x.days(1);
        where(x, 0, 1, 2, 80);
        where(x, 1, 1, 13, 99);
        x.set(5, 1, 70);
        x.days(1);
        where(x, 1, 1, 13, 99);
        t.due("law of him there", x.of(1, 12), 30);
    }

    private static void rests() {
        OldestDown x = Due.war(0, 70, 4, 1, 70, 4, 0, 30, 1);
        Due.tell(x, 0, "nap 50;");
        Due.tell(x, 3, "on 0 rest 0; on 1 rest 1; on 1 rest 0; on 1 go 0;");
        t.due("told to rest", x.country(0, 4), 1);
        t.due("told to rest", x.country(1, 4), 0);
        x.days(1);
        where(x, 0, 1, 0, 60);
        where(x, 1, 1, 15, 99);
        where(x, 2, 0, -1, 50);
        Due.tell(x, 0, "");
        t.due("told to go", x.country(0, 4), 0);
        t.due("told to rest", x.country(1, 4), 1);
        x.days(1);
        where(x, 0, 1, 4, 60);
        where(x, 1, 1, 15, 99);
        x.days(1);
        t.due("not told", x.country(1, 4), 0);
        where(x, 1, 1, 11, 99);
    }

    private static void bounds() {
        OldestDown x = Due.war(0, 70, 4);
        t.due("days 0", x.days(0), -1);
        t.due("days -1", x.days(-1), -1);
        t.due("days 61", x.days(61), -1);
        t.due("days least", x.days(Integer.MIN_VALUE), -1);
        t.due("days most", x.days(Integer.MAX_VALUE), -1);
        t.due("nothing done", x.look(1) + x.look(7) + x.look(14), 0);
        t.due("war in four of them", x.days(60), 4);
        t.due("day", x.look(1), 60);
        t.due("war", x.look(2), 0);
        line(x, 1, 3, 4, -1, 0);
        t.due("lines", x.look(7), 2);
        t.due("no such line", x.book(2, 0), -2);
        t.due("no such line", x.book(-1, 0), -2);
        t.due("no such line", x.book(150, 0), -2);
        t.due("no such part", x.book(0, 4), -2);
        t.due("no such part", x.book(0, -1), -2);
    }

    private static void alikeFight() {
        OldestDown x = Due.war(0, 70, 9, 1, 70, 9);
        x.set(5, 0, 51);
        x.set(5, 1, 51);
        x.days(1);
        where(x, 0, 1, 9, 25);
        where(x, 1, 1, 9, 25);
        t.due("calls alone", x.look(7), 2);
        x.set(5, 1, 60);
        x.days(1);
        line(x, 2, 1, 1, 0, 9);
        where(x, 0, 2, -1, 25);
        where(x, 1, 1, 9, 50);
    }

    /** Three of COUNTRY 0 stand at CELL 0; one of COUNTRY 1 comes to them on day 4. */
    private static OldestDown threeAtHomeCell() {
        OldestDown x = Due.war(0, 90, 1, 0, 80, 1, 0, 80, 1, 1, 70, 9);
        x.set(3, 0, 3);
        Due.tell(x, 0, "step 0;");
        x.days(3);
        Due.tell(x, 0, "step 0 when country = 0;");
        x.days(1);
        where(x, 3, 1, 6, 50);
        return x;
    }

    private static void beaten() {
        OldestDown x = threeAtHomeCell();
        x.set(5, 0, 31);
        x.set(5, 1, 20);
        x.set(5, 2, 40);
        x.set(5, 3, 92);
        t.due("war", x.days(1), 1);
        line(x, 4, 4, 1, 1, 0);
        line(x, 5, 4, 2, 0, 0);
        line(x, 6, 4, 2, 2, 0);
        line(x, 7, 4, 4, -1, 0);
        t.due("lines", x.look(7), 8);
        where(x, 0, 0, -1, 15);
        where(x, 1, 0, -1, 20);
        where(x, 2, 0, -1, 20);
        where(x, 3, 0, -1, 82);
    }

    private static void fightInTheMiddle() {
        OldestDown x = Due.war(0, 90, 9, 0, 80, 2, 1, 90, 2, 1, 80, 9);
        Due.tell(x, 0, "step 5 when country = 0 and age = 90; step 5 when country = 1 and age = 80;"
            + "step 5 when country = 0 and day < 2; step 4 when day > 1; step 0;");
        Due.tell(x, 3, "on 0 rest 1; on 0 rest 0; on 1 rest 0;");
        // Oldest first: MAN 0 and 2 stand on CELLS 0 and 15, then 1 and 3 are called.
        x.days(2);
        where(x, 0, 1, 0, 70);
        where(x, 1, 1, 0, 60);
        where(x, 2, 1, 15, 60);
        where(x, 3, 1, 10, 50);
        x.days(1);
        // 0 goes to 5, 1 to 4, 2 to 11, 3 from 10 to 5, where 0 is.
        where(x, 0, 1, 5, 60);
        where(x, 1, 1, 4, 60);
        where(x, 2, 1, 11, 60);
        where(x, 3, 2, -1, 50);
        line(x, 4, 2, 1, 3, 5);
    }

    private static void winnersOutOfBreath() {
        OldestDown x = threeAtHomeCell();
        x.set(5, 0, 9);
        x.set(5, 1, 10);
        x.set(5, 2, 11);
        x.set(5, 3, 29);
        x.days(1);
        where(x, 0, 1, 0, 0);
        where(x, 1, 1, 0, 0);
        where(x, 2, 1, 0, 1);
        where(x, 3, 2, -1, 29);
        t.due("still war", x.look(2), 1);
    }

    private static void peaceOfTheOther() {
        OldestDown x = Due.war(1, 70, 8, 0, 20, 1);
        t.due("war", x.days(2), 2);
        t.due("peace", x.look(2), 0);
        where(x, 0, 0, -1, 50);
        line(x, 1, 1, 4, -1, 0);
    }

    private static void guardedEnd() {
        OldestDown x = Due.war(0, 70, 9, 1, 70, 1);
        Due.tell(x, 0, "step 0 when country = 1;");
        x.days(2);
        where(x, 0, 1, 15, 25);
        where(x, 1, 1, 15, 25);
        t.due("somebody is there", x.look(2), 1);
        x.set(5, 0, 26);
        x.days(1);
        t.due("nobody is there", x.look(2), 0);
    }

    private static void teaTime() {
        OldestDown x = Due.war(0, 70, 9, 1, 70, 9);
        Due.tell(x, 0, "step 9 when day < 1; step 0;");
        x.set(5, 0, 40);
        x.set(2, 0, 2);
        x.days(1);
        where(x, 0, 2, -1, 40);
        x.days(1);
        where(x, 0, 2, -1, 40);
        x.days(1);
        where(x, 0, 0, -1, 40);
        line(x, 3, 2, 5, 0, 0);
        x.days(1);
        line(x, 4, 3, 0, 0, 0);
        OldestDown y = Due.war(0, 70, 9, 1, 70, 9);
        y.set(5, 0, 40);
        y.set(2, 0, 0);
        y.days(1);
        where(y, 0, 0, -1, 40);
        line(y, 2, 0, 1, 0, 9);
        line(y, 3, 0, 5, 0, 0);
        y.days(1);
        line(y, 4, 1, 0, 0, 0);
    }

    /** Lines 5 stand ahead of 4; who isn't kept long enough has none. */
    private static void peaceBeforeTea() {
        OldestDown x = Due.war(0, 70, 9, 1, 70, 9);
        x.set(5, 0, 40);
        x.days(3);
        t.due("peace ahead of tea's end", x.look(2), 0);
        where(x, 0, 0, -1, 40);
        line(x, 3, 1, 4, -1, 0);
        t.due("lines", x.look(7), 4);
        OldestDown y = Due.war(0, 70, 9, 1, 70, 9);
        y.set(5, 0, 40);
        y.set(2, 0, 1);
        y.days(2);
        line(y, 3, 1, 5, 0, 0);
        line(y, 4, 1, 4, -1, 0);
        t.due("lines", y.look(7), 5);
    }

    private static void keep() {
        OldestDown x = new OldestDown();
        t.due("a new one has war", x.days(1), 1);
        t.due("nobody knows", x.look(2), 0);
        line(x, 0, 0, 4, -1, 0);
        OldestDown y = new OldestDown();
        y.man(0, 20, 1);
        y.man(1, 20, 1);
        y.man(1, 20, 1);
        Due.tell(y, 0, "fade 0;");
        y.teach(0, 3);
        y.teach(1, 5);
        y.teach(2, 5);
        y.teach(2, 1);
        y.set(0, 0, 1);
        y.days(1);
        t.due("both know enough", y.look(2), 1);
        y.set(0, 0, 2);
        t.due("weight", y.country(0, 2), 1);
        t.due("weight", y.country(1, 2), 2);
        y.days(1);
        t.due("one knows too little", y.look(2), 0);
    }

    private static void keepByWeights() {
        OldestDown x = new OldestDown();
        x.man(0, 20, 1);
        x.man(1, 20, 1);
        Due.tell(x, 0, "fade 0;");
        Due.tell(x, 2, "fact 2 weighs 40; fact 6 weighs 39;");
        x.teach(0, 2);
        x.teach(1, 6);
        x.set(0, 0, 39);
        x.days(1);
        t.due("39 is enough", x.look(2), 1);
        x.set(0, 0, 40);
        x.days(1);
        t.due("39 is too little", x.look(2), 0);
    }

    private static void tellsOn() {
        OldestDown x = Due.war(0, 20, 1, 0, 20, 1, 0, 20, 1, 1, 20, 1);
        Due.tell(x, 0, "fade 0;");
        Due.tell(x, 1, "0 tells 1; 1 tells 2; 3 tells 0;");
        x.teach(0, 1);
        x.teach(0, 2);
        x.teach(1, 7);
        x.teach(3, 4);
        x.days(1);
        int[] first = {6 + 16, 134, 134, 16};
        for (int m = 0; m < 4; m++) t.due("knows " + m, x.of(m, 4), first[m]);
        x.days(6);
        for (int m = 0; m < 4; m++) t.due("knows " + m, x.of(m, 4), first[m]);
        x.days(1);
        int[] then = {22, 150, 150, 16};
        for (int m = 0; m < 4; m++) t.due("knows " + m, x.of(m, 4), then[m]);
        t.due("day", x.look(1), 8);
    }

    private static void tellsOnlyAtHome() {
        OldestDown x = Due.war(0, 80, 1, 0, 20, 1, 0, 20, 1);
        Due.tell(x, 0, "fade 0; step 0;");
        Due.tell(x, 1, "0 tells 1; 1 tells 0 and 2;");
        x.teach(0, 1);
        x.teach(1, 2);
        x.days(1);
        t.due("he is in the field", x.of(0, 4), 2);
        t.due("who told is in the field", x.of(1, 4), 4);
        t.due("both at home", x.of(2, 4), 4);
    }

    /** A STATE whose next DRAW of 1000 is so. */
    private static int stateWithDraw(int due) {
        int s = 0;
        while (((s * 1664525 + 1013904223) >>> 8) % 1000 != due) s++;
        return s;
    }

    private static void draws() {
        for (int draw = 49; draw <= 50; draw++) {
            OldestDown x = Due.war(0, 20, 1, 0, 20, 1, 0, 20, 1);
            x.teach(1, 3);
            x.teach(1, 5);
            int s = stateWithDraw(draw);
            x.state(s);
            x.days(1);
            t.due("draw " + draw, x.of(1, 4), draw < 50 ? 32 : 40);
            t.due("one draw, for him alone", x.look(8), s * 1664525 + 1013904223);
            t.due("a line, if he forgot", x.look(7), draw < 50 ? 1 : 0);
        }
        OldestDown y = Due.war(0, 20, 1);
        y.state(77);
        y.days(5);
        t.due("no draws for who knows nothing", y.look(8), 77);
        y.teach(0, 0);
        Due.tell(y, 0, "fade 0;");
        y.days(1);
        t.due("a draw for who can't forget", y.look(8), 77 * 1664525 + 1013904223);
    }

    private static void forgetsLeast() {
        OldestDown x = Due.war(0, 20, 1, 1, 20, 1);
        Due.tell(x, 0, "fade 1000;");
        x.teach(1, 7);
        x.teach(1, 2);
        x.teach(0, 4);
        x.days(3);
        line(x, 0, 0, 3, 0, 4);
        line(x, 1, 0, 3, 1, 2);
        line(x, 2, 1, 3, 1, 7);
        t.due("lines", x.look(7), 3);
    }

    private static void inPeace() {
        OldestDown x = new OldestDown();
        x.man(0, 80, 3);
        x.man(1, 80, 3);
        t.due("war", x.days(7), 1);
        t.due("lines", x.look(7), 3);
        Due.tell(x, 1, "0 tells 1;");
        Due.tell(x, 0, "fade 1000 when facts > 1; fade 0;");
        x.teach(0, 6);
        x.teach(1, 2);
        t.due("no war", x.days(1), 0);
        where(x, 0, 0, -1, 50);
        t.due("told on in peace", x.of(1, 4), 64);
        line(x, 3, 7, 3, 1, 2);
        t.due("lines", x.look(7), 4);
        t.due("day", x.look(1), 8);
    }

    private static void fullBook() {
        OldestDown x = Due.war();
        for (int m = 0; m < 12; m++) x.man(0, 20, 1);
        Due.tell(x, 0, "fade 1000;");
        for (int round = 0; round < 2; round++) {
            for (int m = 0; m < 12; m++) for (int f = 0; f < 7; f++) x.teach(m, f);
            x.days(7);
            t.due("lines", x.look(7), round == 0 ? 84 : 150);
        }
        line(x, 149, 12, 3, 5, 5);
        t.due("no 151st", x.book(150, 0), -2);
        t.due("all goes on", x.of(11, 4), 0);
    }

    private static void lastDays() {
        OldestDown x = Due.war();
        for (int i = 0; i < 166; i++) x.days(60);
        t.due("day", x.look(1), 9960);
        t.due("beyond 9999", x.days(40), -1);
        t.due("nothing done", x.look(1), 9960);
        t.due("up to 9999", x.days(39), 39);
        t.due("day", x.look(1), 9999);
        t.due("no more", x.days(1), -1);
        t.due("day", x.look(1), 9999);
    }

    private static void countries() {
        OldestDown x = Due.war(0, 80, 3, 1, 80, 3, 0, 70, 3);
        x.teach(0, 1);
        x.teach(2, 1);
        x.teach(2, 4);
        x.teach(1, 0);
        Due.tell(x, 2, "fact 1 weighs 10;");
        t.due("known", x.country(0, 1), 18);
        t.due("known", x.country(1, 1), 1);
        t.due("weight", x.country(0, 2), 11);
        t.due("want", x.country(0, 3), 2);
        x.state(0);
        x.days(2);
        t.due("in field", x.country(0, 0), 2);
        t.due("in field", x.country(1, 0), 1);
        t.due("no such country", x.country(2, 0), -1);
        t.due("no such country", x.country(-1, 0), -1);
        t.due("no such part", x.country(0, 5), -1);
        t.due("no such part", x.country(0, -1), -1);
    }
}
