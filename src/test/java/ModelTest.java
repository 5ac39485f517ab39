import java.util.ArrayList;
import java.util.List;

/**
 * Holds the class against promises 1 to 31 and Terms 1 to 4 all together: in long runs of chosen calls ("An object is
 * used for at most 512 calls") it must answer each as Model does, which tells the document a second time.
 */
final class ModelTest {
    private static final int RUNS = 600;
    private static final int CALLS = 440;

    private long seed;
    private OldestDown x;
    private Model y;
    private List<String> log;
    private int calls;
    private boolean wrong;

    public static void main(String[] args) {
        int runs = args.length > 0 ? Integer.parseInt(args[0]) : RUNS;
        for (int run = 0; run < runs; run++) {
            if (new ModelTest().run(run)) {
                System.out.println("run " + run + " is not as due");
                System.exit(1);
            }
        }
        System.out.println(runs + " passed, 0 failed");
    }

    /** The next number below n, from a row of numbers that is the same each time. */
    private int below(int n) {
        seed = seed * 6364136223846793005L + 1442695040888963407L;
        return (int) ((seed >>> 33) % n);
    }

    private boolean chance(int ofHundred) {
        return below(100) < ofHundred;
    }

    /** Mostly 0 .. most, now and then beyond it. */
    private int about(int most) {
        if (chance(97)) return below(most + 1);
        int[] wild = {-1, -2, most + 1, most + 2, Integer.MIN_VALUE, Integer.MAX_VALUE, below(1 << 30), -below(1 << 30)};
        return wild[below(wild.length)];
    }

    private void due(String call, int got, int want) {
        log.add(call + " answered " + got);
        calls++;
        if (got != want && !wrong) {
            wrong = true;
            log.forEach(System.out::println);
            System.out.println("due is " + want);
        }
    }

    private boolean run(int number) {
        seed = number * 7919L + 12345;
        below(2);
        x = new OldestDown();
        y = new Model();
        log = new ArrayList<>();
        int men = chance(20) ? 0 : 2 + below(11);
        for (int i = 0; i < men; i++) man();
        for (int i = 0; i < men; i++) teach();
        for (int i = 0; i < 4; i++) if (chance(70)) text(i);
        while (calls < CALLS && !wrong) call();
        return wrong;
    }

    private void man() {
        int c = chance(98) ? below(2) : about(1);
        int age = chance(30) ? 60 + 10 * below(5) : about(120);
        int legs = chance(98) ? 1 + below(9) : about(9);
        due("man(" + c + ", " + age + ", " + legs + ")", x.man(c, age, legs), y.man(c, age, legs));
    }

    private int someMan() {
        return chance(97) && !y.now.men.isEmpty() ? below(y.now.men.size()) : about(11);
    }

    private void teach() {
        int m = someMan();
        int f = about(7);
        due("teach(" + m + ", " + f + ")", x.teach(m, f) ? 1 : 0, y.teach(m, f));
    }

    private void set() {
        int[] most = {3, 9, 10, 4, 1, 99, 999};
        int what = about(6);
        int known = what >= 0 && what <= 6 ? what : 0;
        int who = known == 3 ? about(1) : known == 4 ? about(15) : someMan();
        int v = chance(15) ? about(known == 6 ? 1010 : 102) : about(most[known]);
        due("set(" + what + ", " + who + ", " + v + ")", x.set(what, who, v) ? 1 : 0, y.set(what, who, v));
    }

    private void send() {
        int old = someMan();
        int young = someMan();
        for (int i = 0; i < 20 && y.of(old, 6) != 0; i++) old = someMan();
        for (int i = 0; i < 40 && (y.of(young, 6) != 1 || y.of(young, 0) != y.of(old, 0)); i++) young = someMan();
        int has = Math.max(0, y.of(young, 5));
        int coin = chance(80) ? below(has + 1) : about(has);
        due("send(" + old + ", " + young + ", " + coin + ")", x.send(old, young, coin) ? 1 : 0, y.send(old, young, coin));
    }

    private void days() {
        int n = chance(90) ? 1 + below(4) : chance(60) ? 60 : about(61);
        due("days(" + n + ")", x.days(n), y.days(n));
    }

    private void text(int k) {
        String s = new Texts().text(k);
        while (s.length() > 400) s = new Texts().text(k);
        log.add("text " + k + ": " + s);
        calls += s.length() / 20 + 3;
        x.end(0);
        y.end(0);
        Due.feed(x, s);
        for (char b : s.toCharArray()) y.tape.add((int) b);
        due("text(" + k + ")", x.text(k), y.text(k));
        due("fault(0)", x.fault(0), y.fault(0));
        due("fault(1)", x.fault(1), y.fault(1));
    }

    private void tape() {
        int a = below(1 << 30);
        int b = -below(1 << 30);
        for (int i = 0; i < (chance(20) ? 21 : 1); i++) due("feed", x.feed(a, b, 0, a, -1), y.feed(a, b, 0, a, -1));
        int n = chance(50) ? about(20) : about(400);
        due("end(" + n + ")", x.end(n) ? 1 : 0, y.end(n));
        int k = about(3);
        due("text(" + k + ")", x.text(k), y.text(k));
        int f = about(1);
        due("fault(" + f + ")", x.fault(f), y.fault(f));
    }

    private void call() {
        switch (below(20)) {
            case 0, 1, 2: days(); break;
            case 3: send(); break;
            case 4: teach(); break;
            case 5: if (chance(40)) set(); break;
            case 6: if (chance(30)) text(below(4)); break;
            case 7: if (chance(50)) due("undo()", x.undo() ? 1 : 0, y.undo()); break;
            case 8: if (chance(20)) rare(); break;
            case 9, 10: lookAll(); break;
            case 11, 12: lookAtMan(); break;
            case 13, 14: if (chance(40)) think(); break;
            case 15, 16: puzzle(); break;
            case 17: slippers(); break;
            default: book(); break;
        }
    }

    private void rare() {
        boolean taken = chance(60);
        int v = about(1000);
        switch (below(4)) {
            case 0: due("image(" + taken + ")", x.image(taken) ? 1 : 0, y.image(taken)); break;
            case 1: due("state(" + v + ")", x.state(v), y.state(v)); break;
            case 2: tape(); break;
            default: man(); break;
        }
    }

    private void lookAll() {
        int what = about(14);
        due("look(" + what + ")", x.look(what), y.look(what));
        int c = about(1);
        int w = about(4);
        due("country(" + c + ", " + w + ")", x.country(c, w), y.country(c, w));
        int f = about(7);
        due("weight(" + f + ")", x.weight(f), y.weight(f));
    }

    private void lookAtMan() {
        int m = someMan();
        int what = about(14);
        due("of(" + m + ", " + what + ")", x.of(m, what), y.of(m, what));
    }

    private void book() {
        int i = about(Math.max(0, y.now.book.size() - 1));
        int what = about(3);
        due("book(" + i + ", " + what + ")", x.book(i, what), y.book(i, what));
    }

    private void think() {
        int what = about(3);
        int c = about(1);
        due("lasts(" + what + ")", x.lasts(what), y.lasts(what));
        int w = about(1);
        if (chance(50)) due("soonest(" + c + ", " + w + ")", x.soonest(c, w), y.soonest(c, w));
        else due("from(" + w + ")", x.from(w), y.from(w));
    }

    private void puzzle() {
        int m = someMan();
        int f = about(7);
        int w = about(1);
        switch (below(7)) {
            case 0: due("hears(" + f + ")", x.hears(f), y.hears(f)); break;
            case 1: due("knees(" + f + ", " + m + ")", x.knees(f, m), y.knees(f, m)); break;
            case 2: march(m, w); break;
            case 3: stands(); break;
            case 4: forgets(m); break;
            case 5: due("last()", x.last(), y.last()); break;
            default: due("treaty(" + w + ")", x.treaty(w), y.treaty(w)); break;
        }
    }

    private void march(int m, int w) {
        int c = about(15);
        int n = chance(97) ? 1 + below(12) : about(12);
        due("march(" + m + ", " + c + ", " + n + ", " + w + ")", x.march(m, c, n, w), y.march(m, c, n, w));
    }

    private void stands() {
        int c = about(1);
        int what = chance(50) ? about(1) : about(24);
        due("stands(" + c + ", " + what + ")", x.stands(c, what), y.stands(c, what));
    }

    private void forgets(int m) {
        int n = about(60);
        due("forgets(" + m + ", " + n + ")", x.forgets(m, n), y.forgets(m, n));
    }

    private void slippers() {
        if (chance(30)) {
            int d = chance(20) ? -1 : about(30);
            int k = chance(60) ? below(5) : about(15);
            int l = chance(80) ? 0 : about(9);
            due("slipper(" + d + ", " + k + ", " + l + ")", x.slipper(d, k, l), y.slipper(d, k, l));
        }
        due("left()", x.left(), y.left());
        due("ask()", x.ask(), y.ask());
    }

    /** Makes texts, most of them without a FAULT. */
    private final class Texts {
        private final StringBuilder s = new StringBuilder();
        private final boolean tight = chance(30);

        private Texts add(Object token) {
            if (s.length() > 0 && (!tight || Character.isLetterOrDigit(s.charAt(s.length() - 1)))) s.append(chance(90) ? ' ' : '\n');
            s.append(chance(1) && chance(20) ? any() : token);
            return this;
        }

        private Object any() {
            String[] odd = {"(", ")", "not", "and", "call", ";", "12345", "0000", "x", "Call", "!", "\t", "tells",
                "fact", "9999", "8", "1", "when", "*", "=", ".", "\u00e9", ""};
            return odd[below(odd.length)];
        }

        String text(int k) {
            int lines = chance(95) ? below(5) : 14 + below(4);
            for (int i = 0; i < lines; i++) {
                if (k == 0) law();
                if (k == 1) telling();
                if (k == 2) add("fact").add(about(7)).add("weighs").add(chance(90) ? below(5) : about(99)).add(";");
                if (k == 3) add("on").add(chance(90) ? y.now.day + below(12) : about(999)).add(chance(50) ? "rest" : "go").add(about(1)).add(";");
            }
            if (chance(5) && s.length() > 0) return s.substring(0, below(s.length()));
            return s.toString();
        }

        private void telling() {
            int teller = someMan();
            add(teller).add("tells");
            int n = 1 + below(3);
            for (int i = 0; i < n; i++) {
                int m = someMan();
                for (int j = 0; j < 9 && m == teller; j++) m = someMan();
                if (i > 0) add("and");
                add(m);
            }
            add(";");
        }

        private void law() {
            String[] words = {"call", "step", "nap", "fade"};
            String word = words[below(4)];
            add(word);
            if (word.equals("nap") && chance(70)) add(below(3)).add("*").add("hill");
            else if (word.equals("fade") && chance(80)) add(below(500));
            else sum(2);
            if (chance(60)) {
                add("when");
                condition(chance(5) ? 9 : 3);
            }
            add(";");
        }

        private void condition(int depth) {
            int n = chance(70) ? 1 : 2 + below(2);
            for (int i = 0; i < n; i++) {
                if (i > 0) add(chance(50) ? "and" : "or");
                if (depth > 0 && chance(depth > 5 ? 80 : 15)) {
                    add("not");
                    single(depth - 1);
                } else {
                    single(depth);
                }
            }
        }

        private void single(int depth) {
            if (depth > 0 && chance(depth > 3 ? 90 : 20)) {
                add("(");
                condition(depth - 1);
                add(")");
            } else {
                sum(1);
                add("<=>".charAt(below(3)));
                sum(1);
            }
        }

        private void sum(int most) {
            String[] names = {"country", "age", "legs", "breath", "facts", "cell", "day", "rain", "hill"};
            int n = 1 + below(most + 1);
            for (int i = 0; i < n; i++) {
                String signs = "+-*/";
                char sign = signs.charAt(below(4));
                if (i > 0) add(sign);
                if (i > 0 && sign == '/') add(chance(98) ? 1 + below(9) : below(2));
                else if (chance(60)) add(names[below(9)]);
                else add(chance(90) ? below(20) : about(9999));
            }
        }
    }
}
