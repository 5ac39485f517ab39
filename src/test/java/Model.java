import java.util.ArrayDeque;
import java.util.ArrayList;
import java.util.Arrays;
import java.util.Comparator;
import java.util.Deque;
import java.util.HashMap;
import java.util.List;
import java.util.Map;
import java.util.TreeSet;
import java.util.regex.Matcher;
import java.util.regex.Pattern;

/** The document told a second time, plainly and without care for room or speed, to compare with. */
final class Model {
    static final int NONE = -1;

    static final class Man {
        int country, age, legs, cell, caught;
        int breath = 50, coin;
        String where = "HOME";
        TreeSet<Integer> knows = new TreeSet<>();
        TreeSet<Integer> tells = new TreeSet<>();

        Man copy() {
            Man m = new Man();
            m.country = country; m.age = age; m.legs = legs; m.cell = cell; m.caught = caught;
            m.breath = breath; m.coin = coin; m.where = where;
            m.knows = new TreeSet<>(knows);
            m.tells = new TreeSet<>(tells);
            return m;
        }

        boolean in(String place) {
            return where.equals(place);
        }
    }

    interface Num {
        int of(Map<String, Integer> names);
    }

    interface Test {
        boolean of(Map<String, Integer> names);
    }

    record Line(String word, Num e, Test when) { }

    record Weight(int fact, int n) { }

    record Order(int day, boolean rest, int country) { }

    record Slipper(int day, int cell, int legs) { }

    static final class World {
        List<Man> men = new ArrayList<>();
        int[] want = {2, 2};
        int keep = 1, rain, tea = 3, war = 1, day, draws, tellingLines;
        TreeSet<Integer> hills = new TreeSet<>();
        List<int[]> book = new ArrayList<>();
        List<Line> law = new ArrayList<>();
        List<Weight> weights = new ArrayList<>();
        List<Order> orders = new ArrayList<>();
        List<Slipper> slippers = new ArrayList<>();
        // Of thought alone.
        boolean thought;
        int fromAge, captives;

        World copy() {
            World w = new World();
            men.forEach(m -> w.men.add(m.copy()));
            w.want = want.clone();
            w.keep = keep; w.rain = rain; w.tea = tea; w.war = war; w.day = day; w.draws = draws;
            w.tellingLines = tellingLines;
            w.hills = new TreeSet<>(hills);
            w.book = new ArrayList<>(book);
            w.law = law; w.weights = weights; w.orders = orders;
            w.slippers = new ArrayList<>(slippers);
            return w;
        }

        List<Man> of(int c) {
            return men.stream().filter(m -> m.country == c).toList();
        }

        List<Man> at(int c, int cell) {
            return of(c).stream().filter(m -> m.in("FIELD") && m.cell == cell).toList();
        }

        int weight(int fact) {
            int n = 1;
            for (Weight w : weights) n = w.fact == fact ? w.n : n;
            return n;
        }

        int weight(TreeSet<Integer> facts) {
            return facts.stream().mapToInt(this::weight).sum();
        }

        TreeSet<Integer> known(int c) {
            TreeSet<Integer> all = new TreeSet<>();
            of(c).forEach(m -> all.addAll(m.knows));
            return all;
        }

        boolean rests(int c) {
            boolean rest = false;
            for (Order o : orders) rest = o.day == day && o.country == c ? o.rest : rest;
            return rest;
        }

        int asks(Man m, String word) {
            boolean field = m.in("FIELD");
            Map<String, Integer> names = new HashMap<>();
            names.put("country", m.country);
            names.put("age", m.age);
            names.put("legs", m.legs);
            names.put("breath", m.breath);
            names.put("facts", m.knows.size());
            names.put("cell", field ? m.cell : 0);
            names.put("day", day);
            names.put("rain", rain);
            names.put("hill", field && hills.contains(m.cell) ? 1 : 0);
            int most = Map.of("call", 120, "step", 9, "nap", 99, "fade", 1000).get(word);
            int v = Map.of("call", m.age - 59, "step", m.legs, "nap", 0, "fade", 50).get(word);
            for (Line l : law) {
                if (l.word.equals(word) && l.when.of(names)) {
                    v = l.e.of(names);
                    break;
                }
            }
            return v < 0 ? 0 : v > most ? most : v;
        }

        void note(int what, int man, int number) {
            if (!thought && book.size() < 150) book.add(new int[] {day, what, man, number});
        }

        int draw(int m) {
            draws = draws * 1664525 + 1013904223;
            return (int) ((draws & 0xffffffffL) / 256 % m);
        }

        void pass() {
            boolean war = war() ;
            if (war) {
                for (int c = 0; c < 2; c++) call(c);
                for (Man m : men) if (m.in("FIELD")) move(m);
                for (int cell = 0; cell < 16; cell++) fight(cell);
                if (!at(0, 15).isEmpty() && at(1, 15).isEmpty()) this.war = 0;
                if (!at(1, 0).isEmpty() && at(0, 0).isEmpty()) this.war = 0;
            }
            if (day % 7 == 0) {
                for (Man m : men) {
                    for (int t : m.tells) {
                        if (m.in("HOME") && men.get(t).in("HOME")) men.get(t).knows.addAll(m.knows);
                    }
                }
            }
            for (Man m : men) {
                if (!thought && !m.knows.isEmpty() && draw(1000) < asks(m, "fade")) {
                    note(3, men.indexOf(m), m.knows.first());
                    m.knows.remove(m.knows.first());
                }
            }
            if (war) {
                for (int c = 0; c < 2; c++) if (weight(known(c)) < keep) this.war = 0;
                for (Man m : men) {
                    if (m.in("CAPTIVE") && day >= m.caught + tea) {
                        m.where = "HOME";
                        note(5, men.indexOf(m), 0);
                    }
                }
                if (this.war == 0) {
                    men.forEach(m -> m.where = "HOME");
                    note(4, NONE, 0);
                }
            }
            day++;
        }

        boolean war() {
            return war == 1;
        }

        void call(int c) {
            if (of(c).stream().filter(m -> m.in("FIELD")).count() >= want[c]) return;
            Comparator<Man> best = Comparator.comparingInt((Man m) -> -asks(m, "call"))
                    .thenComparingInt(m -> -m.age).thenComparingInt(men::indexOf);
            of(c).stream()
                    .filter(m -> m.in("HOME") && m.age >= fromAge && asks(m, "call") > 0)
                    .min(best).ifPresent(m -> {
                        m.where = "FIELD";
                        m.cell = c * 15;
                        note(0, men.indexOf(m), m.cell);
                    });
        }

        void move(Man m) {
            if (rests(m.country)) {
                m.breath = Math.min(99, m.breath + 10);
                return;
            }
            int nap = asks(m, "nap");
            if (nap > 0) {
                m.breath = Math.min(99, m.breath + nap);
                return;
            }
            int step = asks(m, "step");
            while (at(1 - m.country, m.cell).isEmpty()) {
                int next = m.country == 0 ? m.cell + 1 : m.cell - 1;
                step -= hills.contains(next) ? 2 : 1;
                if (next < 0 || next > 15 || step < 0) return;
                m.cell = next;
            }
        }

        void fight(int cell) {
            List<Man> a = at(0, cell);
            List<Man> b = at(1, cell);
            if (a.isEmpty() || b.isEmpty()) return;
            int sa = a.stream().mapToInt(m -> m.breath).sum();
            int sb = b.stream().mapToInt(m -> m.breath).sum();
            if (sa == sb) {
                a.forEach(m -> m.breath /= 2);
                b.forEach(m -> m.breath /= 2);
                return;
            }
            List<Man> beaten = sa < sb ? a : b;
            List<Man> others = sa < sb ? b : a;
            Man young = beaten.stream().min(Comparator.comparingInt((Man m) -> m.age)
                    .thenComparingInt(men::indexOf)).get();
            young.where = "CAPTIVE";
            young.caught = day;
            captives++;
            note(1, men.indexOf(young), cell);
            for (Man m : beaten) {
                if (m != young) {
                    m.where = "HOME";
                    m.breath /= 2;
                    note(2, men.indexOf(m), cell);
                }
            }
            others.forEach(m -> m.breath = Math.max(0, m.breath - 10));
        }
    }

    World now = new World();
    World image;
    Deque<World> undos = new ArrayDeque<>();
    List<Integer> tape = new ArrayList<>();
    int fault, place = NONE;

    boolean hasMan(int m) {
        return m >= 0 && m < now.men.size();
    }

    static boolean between(int v, int least, int most) {
        return v >= least && v <= most;
    }

    static int set(Iterable<Integer> members) {
        int s = 0;
        for (int m : members) s |= 1 << m;
        return s;
    }

    static TreeSet<Integer> members(int set) {
        TreeSet<Integer> all = new TreeSet<>();
        for (int i = 0; i < 31; i++) if ((set >> i & 1) == 1) all.add(i);
        return all;
    }

    int state(int v) {
        int was = now.draws;
        now.draws = v;
        undos.clear();
        return was;
    }

    int man(int country, int age, int legs) {
        if (!between(country, 0, 1) || !between(age, 0, 120) || !between(legs, 1, 9) || now.men.size() == 12) return NONE;
        Man m = new Man();
        m.country = country; m.age = age; m.legs = legs;
        now.men.add(m);
        undos.clear();
        return now.men.size() - 1;
    }

    int set(int what, int who, int v) {
        int[] most = {99, 9, 99, 9, 1, 99, 999};
        if (!between(what, 0, 6) || !between(v, 0, most[what])) return 0;
        if (what == 3 && !between(who, 0, 1) || what == 4 && !between(who, 0, 15)) return 0;
        if (what >= 5 && !hasMan(who)) return 0;
        if (what == 0) now.keep = v;
        if (what == 1) now.rain = v;
        if (what == 2) now.tea = v;
        if (what == 3) now.want[who] = v;
        if (what == 4 && v == 1) now.hills.add(who);
        if (what == 4 && v == 0) now.hills.remove(who);
        if (what == 5) now.men.get(who).breath = v;
        if (what == 6) now.men.get(who).coin = v;
        undos.clear();
        return 1;
    }

    void remember() {
        undos.addLast(now.copy());
        if (undos.size() > 6) undos.removeFirst();
    }

    int teach(int man, int fact) {
        if (!hasMan(man) || !between(fact, 0, 7) || now.men.get(man).knows.contains(fact)) return 0;
        remember();
        now.men.get(man).knows.add(fact);
        return 1;
    }

    int send(int old, int young, int coin) {
        if (!hasMan(old) || !hasMan(young)) return 0;
        Man o = now.men.get(old);
        Man y = now.men.get(young);
        if (!o.in("HOME") || !y.in("FIELD") || o.country != y.country || y.age >= o.age || !between(coin, 0, y.coin)) return 0;
        remember();
        o.where = "FIELD";
        o.cell = y.cell;
        y.where = "HOME";
        y.coin -= coin;
        o.coin = Math.min(999, o.coin + coin);
        return 1;
    }

    int days(int n) {
        if (!between(n, 1, 60) || now.day + n > 9999) return NONE;
        int wars = 0;
        for (int i = 0; i < n; i++) {
            remember();
            wars += now.war;
            now.pass();
        }
        return wars;
    }

    int feed(int... five) {
        if (tape.size() + 20 > 400) return NONE;
        for (int f : five) for (int i = 3; i >= 0; i--) tape.add(f >> 8 * i & 255);
        return tape.size();
    }

    int end(int n) {
        if (!between(n, 0, tape.size())) return 0;
        tape = new ArrayList<>(tape.subList(0, n));
        return 1;
    }

    static final class Fault extends RuntimeException {
        private static final long serialVersionUID = 1;
        final int fault, place;

        Fault(int fault, int place) {
            this.fault = fault;
            this.place = place;
        }
    }

    /** Takes a text's tokens one by one; throws a Fault. */
    final class Parser {
        final List<String> tokens = new ArrayList<>();
        final List<Integer> places = new ArrayList<>();
        int at;

        Parser(String text) {
            Matcher m = Pattern.compile("[a-zA-Z]+|[0-9]+|[^ \n]", Pattern.DOTALL).matcher(text);
            while (m.find()) {
                tokens.add(m.group());
                places.add(m.start());
            }
            tokens.add("");
            places.add(text.length());
        }

        boolean ended() {
            return tokens.get(at).isEmpty();
        }

        boolean sees(String... any) {
            return !ended() && Arrays.asList(any).contains(tokens.get(at));
        }

        Fault fault(int f) {
            return new Fault(f, places.get(at));
        }

        String take(String... any) {
            if (!sees(any)) throw fault(1);
            return tokens.get(at++);
        }

        int number(int least, int most, int not) {
            if (!tokens.get(at).matches("[0-9]{1,4}")) throw fault(1);
            int n = Integer.parseInt(tokens.get(at));
            if (!between(n, least, most) || n == not) throw fault(2);
            at++;
            return n;
        }

        String lineWord(int lines, String... any) {
            if (sees(any) && lines == 16) throw fault(3);
            return take(any);
        }

        List<Line> law() {
            List<Line> lines = new ArrayList<>();
            while (!ended()) {
                String word = lineWord(lines.size(), "call", "step", "nap", "fade");
                Num e = e();
                Test when = n -> true;
                if (sees("when")) {
                    at++;
                    when = b(0);
                }
                take(";");
                lines.add(new Line(word, e, when));
            }
            return lines;
        }

        Test b(int open) {
            Test all = a(open);
            while (sees("or")) {
                at++;
                Test left = all;
                Test right = a(open);
                all = n -> left.of(n) || right.of(n);
            }
            return all;
        }

        Test a(int open) {
            Test all = c(open);
            while (sees("and")) {
                at++;
                Test left = all;
                Test right = c(open);
                all = n -> left.of(n) && right.of(n);
            }
            return all;
        }

        Test c(int open) {
            if (sees("not", "(") && open == 8) throw fault(3);
            if (sees("not")) {
                at++;
                Test c = c(open + 1);
                return n -> !c.of(n);
            }
            if (sees("(")) {
                at++;
                Test b = b(open + 1);
                take(")");
                return b;
            }
            Num left = e();
            String sign = take("<", "=", ">");
            Num right = e();
            return n -> Integer.compare(left.of(n), right.of(n)) == "<=>".indexOf(sign) - 1;
        }

        Num e() {
            Num all = t();
            while (sees("+", "-")) {
                String sign = take("+", "-");
                Num left = all;
                Num right = t();
                all = sign.equals("+") ? n -> left.of(n) + right.of(n) : n -> left.of(n) - right.of(n);
            }
            return all;
        }

        Num t() {
            Num all = u();
            while (sees("*", "/")) {
                Num left = all;
                if (take("*", "/").equals("*")) {
                    Num right = u();
                    all = n -> left.of(n) * right.of(n);
                } else {
                    int by = number(0, 9999, 0);
                    all = n -> left.of(n) / by;
                }
            }
            return all;
        }

        Num u() {
            String[] names = {"country", "age", "legs", "breath", "facts", "cell", "day", "rain", "hill"};
            if (sees(names)) {
                String name = take(names);
                return n -> n.get(name);
            }
            int v = number(0, 9999, NONE);
            return n -> v;
        }

        List<int[]> telling(int men) {
            List<int[]> pairs = new ArrayList<>();
            int lines = 0;
            while (!ended()) {
                int start = at;
                int teller = number(0, men - 1, NONE);
                if (lines == 16) {
                    at = start;
                    throw fault(3);
                }
                String next = take("tells");
                while (!next.equals(";")) {
                    pairs.add(new int[] {teller, number(0, men - 1, teller)});
                    next = take("and", ";");
                }
                lines++;
            }
            pairs.add(new int[] {lines});
            return pairs;
        }

        List<Weight> weights() {
            List<Weight> lines = new ArrayList<>();
            while (!ended()) {
                lineWord(lines.size(), "fact");
                int fact = number(0, 7, NONE);
                take("weighs");
                lines.add(new Weight(fact, number(0, 99, NONE)));
                take(";");
            }
            return lines;
        }

        List<Order> orders() {
            List<Order> lines = new ArrayList<>();
            while (!ended()) {
                lineWord(lines.size(), "on");
                int day = number(0, 999, NONE);
                boolean rest = take("rest", "go").equals("rest");
                lines.add(new Order(day, rest, number(0, 1, NONE)));
                take(";");
            }
            return lines;
        }
    }

    int text(int k) {
        StringBuilder text = new StringBuilder();
        tape.forEach(b -> text.append((char) b.intValue()));
        tape.clear();
        fault = 0;
        place = NONE;
        if (!between(k, 0, 3)) return NONE;
        Parser p = new Parser(text.toString());
        try {
            if (k == 0) return (now.law = p.law()).size();
            if (k == 2) return (now.weights = p.weights()).size();
            if (k == 3) now.orders = p.orders();
            if (k == 1) {
                List<int[]> pairs = p.telling(now.men.size());
                now.men.forEach(m -> m.tells.clear());
                now.tellingLines = pairs.remove(pairs.size() - 1)[0];
                pairs.forEach(t -> now.men.get(t[0]).tells.add(t[1]));
            }
            undos.clear();
            return k == 1 ? now.tellingLines : now.orders.size();
        } catch (Fault f) {
            fault = f.fault;
            place = f.place;
            return NONE;
        }
    }

    int fault(int what) {
        return what == 0 ? fault : what == 1 ? place : NONE;
    }

    int of(int man, int what) {
        if (!hasMan(man) || !between(what, 0, 13) || what == 9) return NONE - 1;
        Man m = now.men.get(man);
        String[] words = {"call", "step", "nap", "fade"};
        if (what >= 10) return now.asks(m, words[what - 10]);
        int where = List.of("HOME", "FIELD", "CAPTIVE").indexOf(m.where);
        int cell = m.in("FIELD") ? m.cell : NONE;
        return new int[] {m.country, m.age, m.legs, m.breath, set(m.knows), m.coin, where, cell, set(m.tells)}[what];
    }

    int weight(int fact) {
        return between(fact, 0, 7) ? now.weight(fact) : NONE;
    }

    int country(int c, int what) {
        if (!between(c, 0, 1) || !between(what, 0, 4)) return NONE;
        int field = (int) now.of(c).stream().filter(m -> m.in("FIELD")).count();
        TreeSet<Integer> known = now.known(c);
        return new int[] {field, set(known), now.weight(known), now.want[c], now.rests(c) ? 1 : 0}[what];
    }

    int book(int i, int what) {
        return between(i, 0, now.book.size() - 1) && between(what, 0, 3) ? now.book.get(i)[what] : NONE - 1;
    }

    World thought() {
        World w = now.copy();
        w.thought = true;
        return w;
    }

    static int until(World w) {
        for (int d = 0; d <= 99; d++) {
            if (w.war == 0) return d;
            if (d < 99) w.pass();
        }
        return NONE;
    }

    int lasts(int what) {
        if (!between(what, 0, 3)) return NONE;
        World w = thought();
        int d = until(w);
        int[] breath = new int[2];
        w.men.forEach(m -> breath[m.country] += m.breath);
        return new int[] {d, w.captives, breath[0], breath[1]}[what];
    }

    int soonest(int c, int what) {
        if (!between(c, 0, 1) || !between(what, 0, 1)) return NONE;
        int[] best = {NONE, NONE};
        for (int m = 0; m < now.men.size(); m++) {
            World w = thought();
            Man man = w.men.get(m);
            if (man.country != c || !man.in("HOME")) continue;
            man.where = "FIELD";
            man.cell = 15 * c;
            int d = until(w);
            if (d != NONE && (best[1] == NONE || d < best[1])) best = new int[] {m, d};
        }
        return best[what];
    }

    int from(int what) {
        if (!between(what, 0, 1)) return NONE;
        int[] best = {NONE, NONE};
        for (int age = 0; age <= 120; age += 10) {
            World w = thought();
            w.fromAge = age;
            int d = until(w);
            if (d != NONE && (best[1] == NONE || d <= best[1])) best = new int[] {age, d};
        }
        return best[what];
    }

    int hears(int fact) {
        if (!between(fact, 0, 7)) return NONE;
        TreeSet<Integer> heard = new TreeSet<>();
        Deque<Integer> todo = new ArrayDeque<>();
        for (int m = 0; m < now.men.size(); m++) if (now.men.get(m).knows.contains(fact)) todo.add(m);
        while (!todo.isEmpty()) {
            int m = todo.remove();
            if (heard.add(m)) todo.addAll(now.men.get(m).tells);
        }
        return set(heard);
    }

    /** The fewest tellings over the border of some set of MEN around him who do not KNOW it. */
    int knees(int fact, int man) {
        if (!between(fact, 0, 7) || !hasMan(man) || now.men.get(man).knows.contains(fact)) return NONE;
        int n = now.men.size();
        int least = Integer.MAX_VALUE;
        for (int inside = 0; inside < 1 << n; inside++) {
            boolean good = (inside >> man & 1) == 1;
            int over = 0;
            for (int m = 0; m < n && good; m++) {
                if ((inside >> m & 1) == 0) over += Integer.bitCount(set(now.men.get(m).tells) & inside);
                else good = !now.men.get(m).knows.contains(fact);
            }
            if (good) least = Math.min(least, over);
        }
        return least;
    }

    int march(int man, int c, int n, int what) {
        if (!hasMan(man) || !between(c, 0, 15) || !between(n, 1, 12) || !between(what, 0, 1)) return NONE;
        int[] best = {NONE, NONE};
        tryMarch(now.men.get(man).legs, c, n, now.men.get(man).breath, 0, 0, best);
        return best[what];
    }

    private static void tryMarch(int legs, int left, int n, int breath, int day, int row, int[] best) {
        if (day == n) {
            if (left == 0 && breath > best[0]) {
                best[0] = breath;
                best[1] = row;
            }
            return;
        }
        tryMarch(legs, left, n, Math.min(99, breath + 10), day + 1, row, best);
        int go = Math.min(legs, left);
        if (go > 0 && breath >= 5 * go) tryMarch(legs, left - go, n, breath - 5 * go, day + 1, row + (1 << day), best);
    }

    int stands(int c, int what) {
        if (!between(c, 0, 1)) return NONE;
        List<Integer> young = new ArrayList<>();
        for (int m = 0; m < now.men.size(); m++) {
            if (now.men.get(m).country == c && now.men.get(m).in("FIELD")) young.add(m);
        }
        Map<Integer, Integer> best = new HashMap<>();
        int[] worth = {NONE, 0};
        tryStands(c, young, 0, new HashMap<>(), 0, best, worth);
        if (what == 0) return worth[0];
        if (what == 1) return worth[1];
        return what >= 10 ? best.getOrDefault(what - 10, NONE) : NONE;
    }

    private void tryStands(int c, List<Integer> young, int i, Map<Integer, Integer> way, int coin,
            Map<Integer, Integer> best, int[] worth) {
        if (way.size() + young.size() - i < worth[0]) return;
        if (i == young.size()) {
            if (way.size() > worth[0] || way.size() == worth[0] && coin < worth[1]) {
                best.clear();
                best.putAll(way);
                worth[0] = way.size();
                worth[1] = coin;
            }
            return;
        }
        int y = young.get(i);
        for (int o = 0; o < now.men.size(); o++) {
            Man old = now.men.get(o);
            int older = old.age - now.men.get(y).age;
            if (old.country != c || !old.in("HOME") || older <= 0 || way.containsValue(o)) continue;
            way.put(y, o);
            tryStands(c, young, i + 1, way, coin + older, best, worth);
            way.remove(y);
        }
        tryStands(c, young, i + 1, way, coin, best, worth);
    }

    int slipper(int day, int k, int legs) {
        if (day == NONE) {
            now.slippers.clear();
            return 0;
        }
        if (!between(day, 0, 30) || !between(k, 0, 15) || !between(legs, 0, 9) || now.slippers.size() == 10) return NONE;
        now.slippers.add(new Slipper(day, k, legs));
        return now.slippers.size();
    }

    TreeSet<Integer> leavers() {
        TreeSet<Integer> all = new TreeSet<>();
        for (int i = 0; i < now.men.size(); i++) {
            int legs = now.men.get(i).legs;
            if (now.slippers.stream().allMatch(s -> s.cell <= legs * s.day && (s.legs == 0 || s.legs == legs))) all.add(i);
        }
        return all;
    }

    int left() {
        return set(leavers());
    }

    int ask() {
        TreeSet<Integer> all = leavers();
        if (all.size() < 2) return NONE;
        int best = NONE;
        int least = 13;
        for (int l = 9; l >= 1; l--) {
            int most = l;
            int slow = (int) all.stream().filter(m -> now.men.get(m).legs <= most).count();
            if (Math.max(slow, all.size() - slow) <= least) {
                least = Math.max(slow, all.size() - slow);
                best = l;
            }
        }
        return best;
    }

    int forgets(int man, int n) {
        if (!hasMan(man) || !between(n, 0, 60)) return NONE;
        Man m = now.men.get(man);
        int fade = now.asks(m, "fade");
        int[] of = new int[9];
        of[m.knows.size()] = 1000000;
        for (int d = 0; d < n; d++) {
            int[] then = of.clone();
            for (int k = 1; k < 9; k++) {
                int gone = (int) Math.floorDiv((long) of[k] * fade, 1000L);
                then[k] -= gone;
                then[k - 1] += gone;
            }
            of = then;
        }
        return of[0];
    }

    int last() {
        int best = NONE;
        for (int i = now.men.size() - 1; i >= 0; i--) {
            if (best == NONE) {
                best = i;
                continue;
            }
            Man a = now.men.get(i);
            Man b = now.men.get(best);
            if (a.knows.size() > b.knows.size() || a.knows.size() == b.knows.size() && a.age >= b.age) best = i;
        }
        return best;
    }

    int treaty(int what) {
        if (!between(what, 0, 1)) return NONE;
        TreeSet<Integer> all = now.known(0);
        all.addAll(now.known(1));
        List<Integer> sets = new ArrayList<>();
        for (int s = 0; s < 256; s++) {
            boolean ends = false;
            for (int c = 0; c < 2; c++) {
                TreeSet<Integer> left = now.known(c);
                left.removeAll(members(s));
                ends |= now.weight(left) < now.keep;
            }
            if (ends && all.containsAll(members(s))) sets.add(s);
        }
        Comparator<Integer> best = Comparator.comparingInt((Integer s) -> now.weight(members(s)))
                .thenComparingInt(s -> Integer.bitCount(s)).thenComparingInt(s -> s);
        int s = sets.stream().min(best).orElse(NONE);
        return s == NONE || what == 1 ? s : now.weight(members(s));
    }

    int undo() {
        if (undos.isEmpty()) return 0;
        World w = undos.removeLast();
        w.law = now.law;
        w.weights = now.weights;
        w.slippers = now.slippers;
        now = w;
        return 1;
    }

    int image(boolean taken) {
        if (taken) {
            image = now.copy();
        } else if (image != null) {
            now = image.copy();
            undos.clear();
        }
        return image == null ? 0 : 1;
    }

    int look(int what) {
        if (!between(what, 0, 14)) return NONE;
        return new int[] {now.men.size(), now.day, now.war, now.keep, now.rain, now.tea, set(now.hills),
            now.book.size(), now.draws, now.law.size(), now.tellingLines, now.weights.size(),
            now.orders.size(), now.slippers.size(), undos.size()}[what];
    }
}
