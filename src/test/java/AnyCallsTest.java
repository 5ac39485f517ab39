import java.util.Random;

/**
 * Holds the class against LANGUAGE.md, rule 7: "No call may ever throw or fail to end, for any arguments in any
 * state", and rule 13: "the same calls always give the same answers".
 */
final class AnyCallsTest {
    private static final int RUNS = 400;
    private static final int[] EDGES = {Integer.MIN_VALUE, Integer.MAX_VALUE, -2, -1, 0, 1, 2, 3, 5, 7, 8, 9, 10, 11, 12,
        13, 15, 16, 20, 30, 31, 58, 60, 61, 99, 100, 120, 121, 150, 399, 400, 999, 1000, 9999};
    private static final String[] TOKENS = {"call ", "step ", "nap ", "fade ", "when ", "or ", "and ", "not ", "(", ")", ";", "+",
        "-", "*", "/", "<", "=", ">", "0 ", "1 ", "2 ", "7 ", "11 ", "999 ", "9999 ", "12345 ", "age ", "cell ", "day ", "hill ",
        "tells ", "fact ", "weighs ", "on ", "rest ", "go ", "?", "\n"};

    private final Random random;
    private final OldestDown x = new OldestDown();

    private AnyCallsTest(int seed) {
        random = new Random(seed);
    }

    public static void main(String[] args) {
        int runs = args.length > 0 ? Integer.parseInt(args[0]) : RUNS;
        Due t = new Due();
        for (int seed = 0; seed < runs; seed++) {
            t.due("run " + seed, new AnyCallsTest(seed).run(), new AnyCallsTest(seed).run());
        }
        System.out.println(runs - t.wrong() + " passed, " + t.wrong() + " failed");
        if (t.wrong() != 0) System.exit(1);
    }

    private long run() {
        long all = 0;
        int men = random.nextInt(13);
        for (int m = 0; m < men; m++) x.man(m % 2, random.nextInt(121), 1 + random.nextInt(9));
        if (random.nextInt(4) > 0) x.set(0, 0, 0);
        for (int i = 0; i < 511 - men; i++) all = all * 31 + call(random.nextInt(34));
        return all;
    }

    private int any() {
        int kind = random.nextInt(20);
        return kind == 0 ? random.nextInt() : kind < 5 ? EDGES[random.nextInt(EDGES.length)] : random.nextInt(16);
    }

    private int text() {
        StringBuilder s = new StringBuilder();
        String[] begins = {"call age when ", "1 tells ", "fact 1 weighs ", "on 1 ", ""};
        int k = random.nextInt(5);
        s.append(begins[k]);
        int n = random.nextInt(random.nextInt(10) == 0 ? 150 : 8);
        boolean opens = random.nextInt(10) == 0;
        for (int i = 0; i < n; i++) s.append(opens && random.nextInt(20) > 0 ? "not (not((" : TOKENS[random.nextInt(TOKENS.length)]);
        if (random.nextInt(2) == 0) s.append("1 = 1;");
        x.end(0);
        Due.feed(x, s.substring(0, Math.min(400, s.length())));
        return x.text(k) + 7 * x.fault(0) + 77 * x.fault(1);
    }

    private int one(boolean b) {
        return b ? 1 : 0;
    }

    private int call(int which) {
        switch (which) {
            case 0: return x.state(random.nextInt());
            case 1: return x.man(any(), any(), any());
            case 2: return one(x.set(any(), any(), any()));
            case 3: return one(x.teach(any(), any()));
            case 4: return one(x.send(any(), any(), any()));
            case 5: return x.days(any());
            case 6: return x.feed(any(), random.nextInt(), any(), random.nextInt(), any());
            case 7: return one(x.end(any()));
            case 8: return x.text(any());
            case 9: return x.fault(any());
            case 10: return x.of(any(), any());
            case 11: return x.weight(any());
            case 12: return x.country(any(), any());
            case 13: return x.book(any(), any());
            case 14: return x.lasts(any());
            case 15: return x.soonest(any(), any());
            case 16: return x.from(any());
            case 17: return x.hears(any());
            case 18: return x.knees(any(), any());
            case 19: return x.march(any(), any(), any(), any());
            case 20: return x.stands(any(), any());
            case 21: return x.slipper(any(), any(), any());
            case 22: return x.left();
            case 23: return x.ask();
            case 24: return x.forgets(any(), any());
            case 25: return x.last();
            case 26: return x.treaty(any());
            case 27: return one(x.undo());
            case 28: return one(x.image(random.nextInt(3) == 0));
            case 29: return x.look(any());
            default: return text();
        }
    }
}
