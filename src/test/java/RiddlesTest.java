/** Promises 19 to 28: the questions that no DAY answers. */
final class RiddlesTest {
    private static final Due t = new Due();

    public static void main(String[] args) {
        hears();
        hearsWherever();
        knees();
        kneesWithTurns();
        kneesOfMany();
        march();
        marchAlike();
        marchBounds();
        stands();
        standsForCoin();
        standsAlike();
        standsNobodyLast();
        slipper();
        left();
        ask();
        forgets();
        forgetsAsNow();
        last();
        treaty();
        treatyAlike();
        treatyOfNone();
        t.end();
    }

    private static OldestDown manyMen(int n) {
        OldestDown x = new OldestDown();
        for (int m = 0; m < n; m++) x.man(m % 2, 60, 3);
        return x;
    }

    private static void hears() {
        OldestDown x = manyMen(7);
        t.due("nobody", x.hears(3), 0);
        x.teach(2, 3);
        t.due("he alone", x.hears(3), 4);
        Due.tell(x, 1, "2 tells 1; 1 tells 0 and 4; 5 tells 6; 4 tells 2; 6 tells 5;");
        t.due("all along", x.hears(3), 4 + 2 + 1 + 16);
        x.teach(6, 3);
        t.due("from two", x.hears(3), 4 + 2 + 1 + 16 + 32 + 64);
        t.due("another", x.hears(2), 0);
        t.due("nothing stays", x.of(0, 4), 0);
        t.due("no such fact", x.hears(8), -1);
        t.due("no such fact", x.hears(-1), -1);
        OldestDown y = manyMen(12);
        Due.tell(y, 1, "11 tells 10; 10 tells 9; 9 tells 8; 8 tells 7; 7 tells 6; 6 tells 5; 5 tells 4; 4 tells 3;"
            + "3 tells 2; 2 tells 1; 1 tells 0;");
        y.teach(11, 7);
        t.due("twelve in a row", y.hears(7), 4095);
        t.due("least fact", y.hears(0), 0);
    }

    private static void hearsWherever() {
        OldestDown x = Due.men(0, 80, 1, 0, 20, 1);
        x.set(0, 0, 0);
        x.teach(0, 1);
        Due.tell(x, 1, "0 tells 1;");
        Due.tell(x, 0, "fade 0;");
        x.days(8);
        t.due("in the field", x.of(0, 6), 1);
        t.due("not told", x.of(1, 4), 0);
        t.due("as if at home", x.hears(1), 3);
    }

    private static void knees() {
        OldestDown x = manyMen(6);
        t.due("nobody knows", x.knees(0, 5), 0);
        x.teach(0, 0);
        t.due("nobody tells", x.knees(0, 5), 0);
        t.due("he knows", x.knees(0, 0), -1);
        Due.tell(x, 1, "0 tells 1 and 2 and 3; 1 tells 4; 2 tells 4; 3 tells 4; 4 tells 5;");
        t.due("one alone", x.knees(0, 5), 1);
        t.due("three ways", x.knees(0, 4), 3);
        Due.tell(x, 1, "0 tells 1 and 2 and 3; 1 tells 4; 2 tells 4; 3 tells 4 and 5; 4 tells 5;");
        t.due("two at the end", x.knees(0, 5), 2);
        Due.tell(x, 1, "0 tells 1 and 2 and 5; 1 tells 4; 2 tells 4; 3 tells 4 and 5; 4 tells 5; 5 tells 0; 0 tells 5;");
        t.due("a telling told twice counts once", x.knees(0, 5), 2);
        x.teach(3, 0);
        t.due("one more who knows", x.knees(0, 5), 3);
        t.due("another fact", x.knees(1, 5), 0);
        int[][] wrong = {{-1, 5}, {8, 5}, {0, -1}, {0, 6}, {0, Integer.MAX_VALUE}, {Integer.MIN_VALUE, 0}, {0, 3}};
        for (int[] w : wrong) t.due("knees " + w[0] + " " + w[1], x.knees(w[0], w[1]), -1);
    }

    /** The shortest way first would take what both ways need. */
    private static void kneesWithTurns() {
        OldestDown x = manyMen(6);
        x.teach(0, 0);
        Due.tell(x, 1, "0 tells 1 and 2; 1 tells 3 and 4; 2 tells 3; 3 tells 5; 4 tells 5;");
        t.due("two ways", x.knees(0, 5), 2);
        OldestDown y = manyMen(8);
        y.teach(7, 6);
        Due.tell(y, 1, "7 tells 0 and 1; 0 tells 2 and 3; 1 tells 2; 2 tells 4 and 5; 3 tells 4; 4 tells 6; 5 tells 6;");
        t.due("two ways", y.knees(6, 6), 2);
        t.due("two ways", y.knees(6, 4), 2);
        OldestDown z = manyMen(6);
        z.teach(3, 1);
        Due.tell(z, 1, "3 tells 0; 0 tells 1 and 2 and 4; 1 tells 5; 2 tells 5; 4 tells 5;");
        t.due("one at the start", z.knees(1, 5), 1);
        Due.tell(z, 1, "3 tells 0 and 4; 0 tells 1 and 2; 1 tells 5; 2 tells 5; 4 tells 1;");
        t.due("two at the start", z.knees(1, 5), 2);
        t.due("to him who stands first", z.knees(1, 0), 1);
    }

    private static void kneesOfMany() {
        OldestDown x = manyMen(12);
        StringBuilder s = new StringBuilder();
        for (int m = 0; m < 11; m++) {
            x.teach(m, 2);
            s.append(m).append(" tells 11;");
        }
        Due.tell(x, 1, s.toString());
        t.due("eleven tell him", x.knees(2, 11), 11);
    }

    private static void marching(OldestDown x, int m, int c, int n, int breath, int row) {
        t.due("march " + c + " in " + n, x.march(m, c, n, 0), breath);
        t.due("row " + c + " in " + n, x.march(m, c, n, 1), row);
    }

    private static void march() {
        OldestDown x = Due.men(0, 60, 3, 1, 20, 9);
        marching(x, 0, 6, 3, 30, 6);
        marching(x, 0, 3, 1, 35, 1);
        marching(x, 0, 1, 1, 45, 1);
        marching(x, 0, 9, 3, 5, 7);
        marching(x, 0, 9, 2, -1, -1);
        marching(x, 0, 10, 4, 0, 15);
        // 90, 75, 95, 80, 90, 45: rest as early as nothing beyond 99 is lost
        marching(x, 0, 15, 12, 45, 0b111010010000);
        marching(x, 0, 0, 4, 90, 0);
        marching(x, 0, 0, 12, 99, 0);
        marching(x, 1, 10, 2, 0, 3);
        marching(x, 1, 11, 2, -1, -1);
        x.set(5, 0, 10);
        marching(x, 0, 3, 1, -1, -1);
        marching(x, 0, 3, 2, 5, 2);
        marching(x, 0, 2, 1, 0, 1);
        x.set(5, 0, 99);
        marching(x, 0, 15, 5, 24, 31);
        x.set(5, 1, 0);
        marching(x, 1, 15, 12, 25, 0b101000000000);
        marching(x, 1, 15, 9, -1, -1);
        marching(x, 1, 15, 10, 5, 0b1100000000);
    }

    private static void marchAlike() {
        OldestDown x = Due.men(0, 60, 3);
        x.set(5, 0, 99);
        // rest, go, go: 69; go, rest, go and go, go, rest: 79
        marching(x, 0, 6, 3, 79, 5);
        x.set(5, 0, 89);
        marching(x, 0, 6, 3, 69, 6);
        x.set(5, 0, 90);
        marching(x, 0, 6, 3, 70, 5);
        // go, rest, go, rest
        x.set(5, 0, 99);
        marching(x, 0, 6, 4, 89, 5);
    }

    private static void marchBounds() {
        OldestDown x = Due.men(0, 60, 1);
        x.set(5, 0, 99);
        marching(x, 0, 12, 12, 39, 4095);
        marching(x, 0, 13, 12, -1, -1);
        x.man(0, 60, 9);
        x.set(5, 1, 99);
        marching(x, 1, 15, 2, 24, 3);
        int[][] wrong = {{1, 16, 2, 0}, {-1, 3, 3, 0}, {2, 3, 3, 0}, {0, -1, 3, 0}, {0, 16, 3, 0}, {0, 3, 0, 0}, {0, 3, 13, 0},
            {0, 3, 3, -1}, {0, 3, 3, 2}, {0, Integer.MIN_VALUE, 3, 0}, {0, 3, Integer.MAX_VALUE, 1}};
        for (int[] w : wrong) t.due("march " + w[0] + " " + w[1] + " " + w[2] + " " + w[3], x.march(w[0], w[1], w[2], w[3]), -1);
    }

    /** All of these ages go into THE FIELD, all others stay at HOME. */
    private static OldestDown field(int youngs, int... ages) {
        OldestDown x = new OldestDown();
        for (int age : ages) x.man(0, age, 1);
        x.man(1, 119, 1);
        x.set(0, 0, 0);
        x.set(3, 0, youngs);
        x.set(3, 1, 0);
        Due.tell(x, 0, "call 1 when age < " + 36 + "; call 0; step 0;");
        if (youngs > 0) x.days(youngs);
        return x;
    }

    private static void standing(OldestDown x, int pairs, int coin, int... goers) {
        t.due("stands", x.stands(0, 0), pairs);
        t.due("coin", x.stands(0, 1), coin);
        for (int m = 0; m < goers.length; m++) t.due("who goes for " + m, x.stands(0, 10 + m), goers[m]);
    }

    private static void stands() {
        OldestDown x = field(2, 30, 35, 40, 60);
        standing(x, 2, 35, 2, 3, -1, -1, -1);
        OldestDown none = field(0, 30, 40);
        standing(none, 0, 0, -1, -1, -1);
        OldestDown young = field(2, 30, 35);
        standing(young, 0, 0, -1, -1, -1);
        t.due("of the other country", x.stands(1, 0), 0);
        t.due("of the other country", x.stands(1, 14), -1);
        for (int what : new int[] {-1, 2, 9, 22, Integer.MIN_VALUE, Integer.MAX_VALUE}) t.due("another what", x.stands(0, what), -1);
        for (int m = 5; m < 12; m++) t.due("no such man", x.stands(0, 10 + m), -1);
        t.due("no such country", x.stands(2, 0), -1);
        t.due("no such country", x.stands(-1, 0), -1);
        t.due("nobody goes", x.of(0, 6), 1);
    }

    private static void standsForCoin() {
        // One for one alone: he that costs least.
        standing(field(2, 30, 35, 36), 1, 1, -1, 2, -1);
        // As many as can be, though one alone would cost less.
        OldestDown x = new OldestDown();
        x.man(0, 30, 1);
        x.man(0, 50, 1);
        x.man(0, 51, 1);
        x.man(0, 40, 1);
        x.man(0, 50, 1);
        x.set(0, 0, 0);
        Due.tell(x, 0, "call 1 when age = 50 and legs = 1; call 0; step 0;");
        x.set(3, 0, 1);
        x.days(1);
        Due.tell(x, 0, "call 1 when age = 30; call 0; step 0;");
        x.set(3, 0, 2);
        x.days(1);
        // In the field 0 (30) and 1 (50); of 40, 50 and 51 at home only the last is older than 1.
        standing(x, 2, 11, 3, 2, -1, -1, -1);
        OldestDown y = field(3, 20, 30, 31, 36, 37);
        standing(y, 2, 12, -1, 3, 4, -1, -1);
    }

    private static void standsAlike() {
        // 40 and 50 for two of 30: the first gets the lesser man.
        standing(field(2, 30, 30, 50, 40), 2, 30, 2, 3, -1, -1);
        standing(field(2, 30, 30, 40, 50, 40), 2, 20, 2, 4, -1, -1);
        standing(field(3, 30, 20, 30, 50, 40, 45), 3, 55, 3, 4, 5, -1);
    }

    private static void standsNobodyLast() {
        standing(field(3, 30, 30, 30, 40), 1, 10, 3, -1, -1, -1);
        standing(field(3, 30, 30, 30, 40, 41), 2, 21, 3, 4, -1, -1);
        standing(field(3, 30, 31, 30, 40), 1, 9, -1, 3, -1, -1);
    }

    private static void slipper() {
        OldestDown x = Due.men(0, 60, 3);
        int[][] wrong = {{-2, 0, 0}, {31, 0, 0}, {1, -1, 0}, {1, 16, 0}, {1, 0, -1}, {1, 0, 10}, {Integer.MIN_VALUE, 0, 0}};
        for (int[] w : wrong) t.due("slipper " + w[0] + " " + w[1] + " " + w[2], x.slipper(w[0], w[1], w[2]), -1);
        t.due("none", x.look(13), 0);
        t.due("least", x.slipper(0, 0, 0), 1);
        t.due("most", x.slipper(30, 15, 9), 2);
        for (int i = 3; i <= 10; i++) t.due("slipper", x.slipper(1, 1, 1), i);
        t.due("11th", x.slipper(1, 1, 1), -1);
        t.due("slippers", x.look(13), 10);
        t.due("none is then", x.slipper(-1, 99, -99), 0);
        t.due("slippers", x.look(13), 0);
        t.due("slipper", x.slipper(1, 1, 1), 1);
    }

    private static void left() {
        OldestDown x = Due.men(0, 60, 1, 1, 60, 2, 0, 20, 3, 1, 60, 4, 0, 60, 2);
        t.due("all", x.left(), 31);
        x.slipper(2, 4, 0);
        t.due("k is two legs", x.left(), 30);
        x.slipper(5, 11, 0);
        t.due("all of them", x.left(), 12);
        x.slipper(30, 15, 3);
        t.due("legs told", x.left(), 4);
        x.slipper(-1, 0, 0);
        x.slipper(0, 0, 0);
        t.due("none goes far in no day", x.left(), 31);
        x.slipper(0, 0, 2);
        t.due("legs of two", x.left(), 18);
        x.slipper(0, 1, 0);
        t.due("nobody", x.left(), 0);
        t.due("without men", new OldestDown().left(), 0);
    }

    private static void ask() {
        OldestDown x = Due.men(0, 60, 1, 1, 60, 2);
        t.due("halves", x.ask(), 1);
        x.slipper(1, 2, 0);
        t.due("one alone", x.ask(), -1);
        x.slipper(0, 1, 0);
        t.due("nobody", x.ask(), -1);
        t.due("without men", new OldestDown().ask(), -1);
        t.due("all alike: those at most l are none ahead of it, all behind", Due.men(0, 60, 9, 0, 60, 9).ask(), 1);
        t.due("of several the least", Due.men(0, 60, 2, 0, 60, 7, 0, 60, 7, 1, 60, 1).ask(), 2);
        t.due("two against one", Due.men(0, 60, 4, 0, 60, 6, 0, 60, 8).ask(), 4);
        t.due("odd ones", Due.men(0, 60, 4, 0, 60, 4, 0, 60, 4, 0, 60, 8, 0, 60, 9, 0, 60, 9).ask(), 4);
        t.due("twelve alike", manyMen(12).ask(), 1);
        OldestDown y = Due.men(0, 60, 1, 0, 60, 1, 0, 60, 1, 0, 60, 5, 0, 60, 8);
        y.slipper(1, 3, 0);
        t.due("of left alone", y.ask(), 5);
    }

    private static void forgets() {
        OldestDown x = Due.men(0, 60, 3);
        t.due("nothing known", x.forgets(0, 0), 1000000);
        t.due("nothing known", x.forgets(0, 60), 1000000);
        x.teach(0, 3);
        t.due("at once", x.forgets(0, 0), 0);
        Due.tell(x, 0, "fade 333;");
        int[] due = {0, 333000, 555111, 703259};
        for (int n = 0; n < due.length; n++) t.due("behind " + n, x.forgets(0, n), due[n]);
        x.teach(0, 5);
        Due.tell(x, 0, "fade 500;");
        int[] then = {0, 0, 250000, 500000};
        for (int n = 0; n < then.length; n++) t.due("two behind " + n, x.forgets(0, n), then[n]);
        Due.tell(x, 0, "fade 1000;");
        for (int f = 0; f < 8; f++) x.teach(0, f);
        t.due("eight in seven", x.forgets(0, 7), 0);
        t.due("eight in eight", x.forgets(0, 8), 1000000);
        Due.tell(x, 0, "fade 0;");
        t.due("never", x.forgets(0, 60), 0);
        int[][] wrong = {{0, -1}, {0, 61}, {1, 5}, {-1, 5}, {0, Integer.MIN_VALUE}, {Integer.MAX_VALUE, 0}};
        for (int[] w : wrong) t.due("forgets " + w[0] + " " + w[1], x.forgets(w[0], w[1]), -1);
    }

    /** Fade is what THE LAW tells now, though he will know fewer and it will be later. */
    private static void forgetsAsNow() {
        OldestDown x = Due.men(0, 60, 3);
        x.teach(0, 0);
        x.teach(0, 1);
        Due.tell(x, 0, "fade 1000 when facts = 2 and day = 0; fade 0;");
        t.due("as now", x.forgets(0, 2), 1000000);
        t.due("no draws", x.look(8), 0);
    }

    private static void last() {
        t.due("without men", new OldestDown().last(), -1);
        OldestDown x = Due.men(0, 60, 3, 1, 70, 3, 0, 70, 3, 1, 69, 3);
        t.due("nobody knows: the oldest", x.last(), 1);
        x.teach(3, 7);
        t.due("who knows most", x.last(), 3);
        x.teach(2, 0);
        t.due("the oldest of several", x.last(), 2);
        x.teach(1, 1);
        t.due("the least of several", x.last(), 1);
        x.teach(0, 4);
        x.teach(0, 5);
        t.due("who knows most", x.last(), 0);
    }

    private static void treating(OldestDown x, int weight, int set) {
        t.due("treaty's weight", x.treaty(0), weight);
        t.due("treaty", x.treaty(1), set);
    }

    private static void treaty() {
        OldestDown x = Due.men(0, 60, 3, 1, 60, 3, 1, 60, 3);
        treating(x, 0, 0);
        x.teach(0, 1);
        x.teach(0, 2);
        x.teach(0, 6);
        x.teach(1, 3);
        x.teach(2, 4);
        Due.tell(x, 2, "fact 1 weighs 10; fact 2 weighs 3; fact 6 weighs 4; fact 3 weighs 9; fact 4 weighs 9;");
        treating(x, 17, 2 + 4 + 64);
        x.set(0, 0, 11);
        // Of 17: 7 or more; of 18: 9, or 9.
        treating(x, 7, 4 + 64);
        x.set(0, 0, 14);
        treating(x, 4, 64);
        x.set(0, 0, 15);
        treating(x, 3, 4);
        x.set(0, 0, 17);
        treating(x, 3, 4);
        x.set(0, 0, 18);
        treating(x, 0, 0);
    }

    private static void treatyAlike() {
        OldestDown x = Due.men(0, 60, 3, 1, 60, 3);
        for (int f = 1; f < 5; f++) x.teach(0, f);
        for (int f = 3; f < 8; f++) x.teach(1, f);
        Due.tell(x, 2, "fact 1 weighs 2; fact 2 weighs 2; fact 3 weighs 4; fact 4 weighs 4; fact 5 weighs 8; fact 6 weighs 0;");
        x.set(0, 0, 9);
        // 12 of COUNTRY 0: forget 4 by 3, by 4, or by 1 and 2; 17 of COUNTRY 1.
        treating(x, 4, 8);
        x.set(0, 0, 11);
        treating(x, 2, 2);
        OldestDown y = Due.men(0, 60, 3, 1, 60, 3);
        for (int m = 0; m < 2; m++) for (int f = 0; f < 3; f++) y.teach(m, f);
        Due.tell(y, 2, "fact 0 weighs 2; fact 1 weighs 2; fact 2 weighs 4;");
        y.set(0, 0, 5);
        treating(y, 4, 4);
        y.set(0, 0, 1);
        treating(y, 8, 7);
        y.set(0, 0, 9);
        y.teach(0, 3);
        treating(y, 0, 0);
        OldestDown z = Due.men(0, 60, 3, 1, 60, 3);
        z.teach(0, 0);
        z.teach(1, 5);
        Due.tell(z, 2, "fact 0 weighs 9; fact 5 weighs 8;");
        treating(z, 8, 32);
    }

    private static void treatyOfNone() {
        OldestDown x = Due.men(0, 60, 3, 1, 60, 3);
        x.set(0, 0, 0);
        treating(x, -1, -1);
        x.teach(0, 1);
        x.teach(1, 1);
        treating(x, -1, -1);
        x.set(0, 0, 1);
        treating(x, 1, 2);
        for (int what : new int[] {-1, 2, Integer.MIN_VALUE, Integer.MAX_VALUE}) t.due("another what", x.treaty(what), -1);
    }
}
