/** Promises 1 to 6: a new object, and what is told of it man by man. */
final class TellTest {
    private static final Due t = new Due();

    public static void main(String[] args) {
        newObject();
        state();
        man();
        set();
        setWrongly();
        teach();
        send();
        sendWrongly();
        sendForMuchCoin();
        t.end();
    }

    private static void newObject() {
        OldestDown x = new OldestDown();
        int[] due = {0, 0, 1, 1, 0, 3, 0, 0, 0, 0, 0, 0, 0, 0, 0};
        for (int i = 0; i < due.length; i++) t.due("new look " + i, x.look(i), due[i]);
        for (int c = 0; c < 2; c++) {
            int[] of = {0, 0, 0, 2, 0};
            for (int i = 0; i < of.length; i++) t.due("new country " + c + " " + i, x.country(c, i), of[i]);
        }
        for (int f = 0; f < 8; f++) t.due("new weight", x.weight(f), 1);
        t.due("new of", x.of(0, 0), -2);
        t.due("new book", x.book(0, 0), -2);
        t.due("new fault", x.fault(0), 0);
        t.due("new place", x.fault(1), -1);
        t.due("new undo", x.undo(), false);
        t.due("new image", x.image(false), false);
        t.due("NONE", OldestDown.NONE, -1);
    }

    private static void state() {
        OldestDown x = new OldestDown();
        t.due("state was", x.state(5), 0);
        t.due("state is", x.look(8), 5);
        t.due("state was", x.state(Integer.MIN_VALUE), 5);
        t.due("state was", x.state(-1), Integer.MIN_VALUE);
        t.due("state is", x.look(8), -1);
    }

    private static void man() {
        OldestDown x = new OldestDown();
        int[][] wrong = {{-1, 60, 3}, {2, 60, 3}, {0, -1, 3}, {0, 121, 3}, {0, 60, 0}, {0, 60, 10}};
        for (int[] w : wrong) t.due("no man", x.man(w[0], w[1], w[2]), -1);
        t.due("no man counts", x.look(0), 0);
        t.due("least man", x.man(0, 0, 1), 0);
        t.due("greatest man", x.man(1, 120, 9), 1);
        int[] due = {1, 120, 9, 50, 0, 0, 0, -1, 0};
        for (int i = 0; i < due.length; i++) t.due("new man " + i, x.of(1, i), due[i]);
        for (int m = 2; m < 12; m++) t.due("man", x.man(0, 60, 3), m);
        t.due("13th man", x.man(0, 60, 3), -1);
        t.due("men", x.look(0), 12);
    }

    private static void set() {
        OldestDown x = new OldestDown();
        x.man(0, 60, 3);
        x.man(1, 60, 3);
        int[] most = {99, 9, 99};
        for (int what = 0; what < 3; what++) {
            t.due("set least " + what, x.set(what, -77, 0), true);
            t.due("is least " + what, x.look(3 + what), 0);
            t.due("set most " + what, x.set(what, 99, most[what]), true);
            t.due("is most " + what, x.look(3 + what), most[what]);
        }
        t.due("want", x.set(3, 0, 9), true);
        t.due("want", x.set(3, 1, 0), true);
        t.due("want 0", x.country(0, 3), 9);
        t.due("want 1", x.country(1, 3), 0);
        t.due("hill", x.set(4, 15, 1), true);
        t.due("hill", x.set(4, 0, 1), true);
        t.due("hill again", x.set(4, 0, 1), true);
        t.due("hills", x.look(6), 0x8001);
        t.due("no hill", x.set(4, 15, 0), true);
        t.due("hills", x.look(6), 1);
        t.due("breath", x.set(5, 1, 99), true);
        t.due("breath", x.of(1, 3), 99);
        t.due("breath of the other", x.of(0, 3), 50);
        t.due("breath", x.set(5, 1, 0), true);
        t.due("breath", x.of(1, 3), 0);
        t.due("coin", x.set(6, 0, 999), true);
        t.due("coin", x.of(0, 5), 999);
        t.due("coin of the other", x.of(1, 5), 0);
        t.due("no coin", x.set(6, 0, 0), true);
        t.due("coin", x.of(0, 5), 0);
    }

    private static void setWrongly() {
        OldestDown x = new OldestDown();
        x.man(0, 60, 3);
        x.teach(0, 0);
        int[][] wrong = {{0, 0, -1}, {0, 0, 100}, {1, 0, -1}, {1, 0, 10}, {2, 0, -1}, {2, 0, 100},
            {3, 0, -1}, {3, 0, 10}, {3, -1, 1}, {3, 2, 1}, {4, 0, -1}, {4, 0, 2}, {4, -1, 1}, {4, 16, 1},
            {5, 0, -1}, {5, 0, 100}, {5, -1, 1}, {5, 1, 1}, {6, 0, -1}, {6, 0, 1000}, {6, -1, 1}, {6, 1, 1},
            {-1, 0, 1}, {7, 0, 1}, {Integer.MIN_VALUE, 0, 0}, {Integer.MAX_VALUE, 0, 0}};
        for (int[] w : wrong) t.due("set " + w[0] + " " + w[1] + " " + w[2], x.set(w[0], w[1], w[2]), false);
        t.due("what can be undone stays", x.look(14), 1);
        t.due("breath stays", x.of(0, 3), 50);
        t.due("keep stays", x.look(3), 1);
    }

    private static void teach() {
        OldestDown x = new OldestDown();
        t.due("teach nobody", x.teach(0, 0), false);
        x.man(0, 60, 3);
        x.man(0, 61, 3);
        t.due("teach", x.teach(1, 7), true);
        t.due("teach", x.teach(1, 0), true);
        t.due("knows", x.of(1, 4), 129);
        t.due("the other knows", x.of(0, 4), 0);
        t.due("teach again", x.teach(1, 7), false);
        t.due("no such fact", x.teach(1, 8), false);
        t.due("no such fact", x.teach(1, -1), false);
        t.due("no such man", x.teach(2, 1), false);
        t.due("no such man", x.teach(-1, 1), false);
        t.due("knows", x.of(1, 4), 129);
        t.due("to be undone", x.look(14), 2);
    }

    /** MAN 0 (40) of COUNTRY 0 and MAN 3 of COUNTRY 1 IN THE FIELD, 1 (40), 2 (41) and 4 of COUNTRY 1 at HOME. */
    private static OldestDown withFront() {
        OldestDown x = new OldestDown();
        x.man(0, 40, 2);
        x.man(0, 40, 3);
        x.man(0, 41, 3);
        x.man(1, 70, 2);
        x.man(1, 90, 2);
        x.set(0, 0, 0);
        x.set(3, 0, 1);
        x.set(3, 1, 1);
        Due.tell(x, 0, "call 100 - age when country = 1 ; call 1 when age = 40;");
        x.days(1);
        x.set(6, 0, 30);
        return x;
    }

    private static void send() {
        OldestDown x = withFront();
        t.due("in the field", x.of(0, 7), 2);
        t.due("in the field", x.of(3, 7), 13);
        t.due("send", x.send(2, 0, 20), true);
        int[] due = {0, 41, 3, 50, 0, 20, 1, 2};
        for (int i = 0; i < due.length; i++) t.due("who went " + i, x.of(2, i), due[i]);
        t.due("who came", x.of(0, 6), 0);
        t.due("who came is in no cell", x.of(0, 7), -1);
        t.due("who came paid", x.of(0, 5), 10);
        t.due("to be undone", x.look(14), 1);
        t.due("no line of the book", x.look(7), 2);
        x.days(1);
        t.due("he goes on from there", x.of(2, 7), 5);
    }

    private static void sendWrongly() {
        OldestDown x = withFront();
        int[][] wrong = {{1, 0, 0}, {4, 0, 0}, {2, 3, 0}, {2, 1, 0}, {0, 0, 0}, {3, 0, 0}, {2, 0, 31}, {2, 0, -1},
            {-1, 0, 0}, {5, 0, 0}, {2, -1, 0}, {2, 5, 0}, {0, 2, 0}};
        for (int[] w : wrong) t.due("send " + w[0] + " " + w[1] + " " + w[2], x.send(w[0], w[1], w[2]), false);
        t.due("nothing to be undone", x.look(14), 0);
        t.due("still there", x.of(0, 6), 1);
        t.due("send for all he has", x.send(2, 0, 30), true);
        t.due("coin", x.of(0, 5), 0);
    }

    private static void sendForMuchCoin() {
        OldestDown x = withFront();
        t.due("send for none", x.send(2, 0, 0), true);
        t.due("coin", x.of(0, 5), 30);
        x.undo();
        x.set(6, 2, 980);
        t.due("send", x.send(2, 0, 25), true);
        t.due("999 at most", x.of(2, 5), 999);
        t.due("paid", x.of(0, 5), 5);
    }
}
