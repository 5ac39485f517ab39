import java.util.Arrays;

/** Two countries that call up their men oldest down, as ../shared/DOC.md tells it. */
public final class OldestDown {
    public static final int NONE = -1;

    private static final int MEN = 12;
    private static final int FACTS = 8;
    private static final int CELLS = 16;
    private static final int LINES = 16;
    private static final int TAPE = 400;
    private static final int BOOK = 150;
    private static final int BREATH = 99;
    private static final int COIN = 999;
    private static final int LATEST = 9999;
    private static final int MOST_DAYS = 60;

    private static final int HOME = 0;
    private static final int FIELD = 1;
    private static final int CAPTIVE = 2;

    private static final int CALL = 0;
    private static final int STEP = 1;
    private static final int NAP = 2;
    private static final int FADE = 3;

    private static final int LAW = 0;
    private static final int TELLING = 1;
    private static final int WEIGHTS = 2;
    private static final int ORDERS = 3;

    private final Told told = new Told();
    private final Being being = new Being();
    private final Book book = new Book();
    private final Days days = new Days(told, being, book, true);
    private final Reader reader = new Reader();
    private final Undos undos = new Undos();
    private final Council council = new Council(told, being, book);
    private final Riddles riddles = new Riddles(told, being, days);
    private final Told imageTold = new Told();
    private final Being imageBeing = new Being();
    private final Book imageBook = new Book();
    private boolean imageTaken;

    public OldestDown() {
        imageTaken = false;
    }

    public int state(int v) {
        int before = being.draws;
        being.draws = v;
        undos.forgetAll();
        return before;
    }

    public int man(int country, int age, int legs) {
        boolean canBe = isCountry(country) && age >= 0 && age <= 120 && legs >= 1 && legs <= 9;
        int m = told.men;
        if (!canBe || m < 0 || m >= MEN) {
            return NONE;
        }
        told.country[m] = country;
        told.age[m] = age;
        told.legs[m] = legs;
        told.tells[m] = 0;
        being.start(m);
        told.men = m + 1;
        undos.forgetAll();
        return m;
    }

    public boolean set(int what, int who, int v) {
        boolean done = false;
        if (what >= 0 && what <= 4) {
            done = told.put(what, who, v);
        } else if (what == 5 && told.hasMan(who) && v >= 0 && v <= BREATH) {
            being.breath[who] = v;
            done = true;
        } else if (what == 6 && told.hasMan(who) && v >= 0 && v <= COIN) {
            being.coin[who] = v;
            done = true;
        }
        if (done) {
            undos.forgetAll();
        }
        return done;
    }

    public boolean teach(int man, int fact) {
        if (!told.hasMan(man) || !isFact(fact) || being.knows(man, fact)) {
            return false;
        }
        undos.remember(being);
        being.knows[man] |= 1 << fact;
        return true;
    }

    public boolean send(int old, int young, int coin) {
        if (!told.hasMan(old) || !told.hasMan(young)) {
            return false;
        }
        boolean places = being.where[old] == HOME && being.where[young] == FIELD;
        boolean kin = told.country[old] == told.country[young] && told.age[old] > told.age[young];
        if (!places || !kin || coin < 0 || coin > being.coin[young]) {
            return false;
        }
        undos.remember(being);
        being.where[old] = FIELD;
        being.cell[old] = being.cell[young];
        being.where[young] = HOME;
        being.coin[young] -= coin;
        being.coin[old] = Math.min(COIN, being.coin[old] + coin);
        return true;
    }

    public int days(int n) {
        if (n < 1 || n > MOST_DAYS || being.day + n > LATEST) {
            return NONE;
        }
        int wars = 0;
        for (int i = 0; i < n; i++) {
            undos.remember(being);
            wars += being.war;
            days.pass();
        }
        return wars;
    }

    public int feed(int a, int b, int c, int d, int e) {
        if (!reader.hasRoom()) {
            return NONE;
        }
        reader.add(a);
        reader.add(b);
        reader.add(c);
        reader.add(d);
        reader.add(e);
        return reader.length;
    }

    public boolean end(int n) {
        if (n < 0 || n > reader.length) {
            return false;
        }
        reader.length = n;
        return true;
    }

    public int text(int k) {
        int lines = reader.read(k, told);
        if (lines != NONE && (k == TELLING || k == ORDERS)) {
            undos.forgetAll();
        }
        return lines;
    }

    public int fault(int what) {
        switch (what) {
            case 0: return reader.fault;
            case 1: return reader.place;
            default: return NONE;
        }
    }

    public int of(int man, int what) {
        if (!told.hasMan(man)) {
            return NONE - 1;
        }
        switch (what) {
            case 0: return told.country[man];
            case 1: return told.age[man];
            case 2: return told.legs[man];
            case 3: return being.breath[man];
            case 4: return being.knows[man];
            case 5: return being.coin[man];
            case 6: return being.where[man];
            case 7: return being.where[man] == FIELD ? being.cell[man] : NONE;
            case 8: return told.tells[man];
            case 10: return days.asked(man, CALL);
            case 11: return days.asked(man, STEP);
            case 12: return days.asked(man, NAP);
            case 13: return days.asked(man, FADE);
            default: return NONE - 1;
        }
    }

    public int weight(int fact) {
        return isFact(fact) ? told.weight[fact] : NONE;
    }

    public int country(int c, int what) {
        if (!isCountry(c)) {
            return NONE;
        }
        switch (what) {
            case 0: return days.howManyInField(c);
            case 1: return days.known(c);
            case 2: return told.weightOf(days.known(c));
            case 3: return told.want[c];
            case 4: return told.orders.rests(being.day, c) ? 1 : 0;
            default: return NONE;
        }
    }

    public int book(int i, int what) {
        boolean there = i >= 0 && i < being.lines && what >= 0 && what < Book.PARTS;
        return there ? book.part(i, what) : NONE - 1;
    }

    public int lasts(int what) {
        return what < 0 || what > 3 ? NONE : council.lasting(what);
    }

    public int soonest(int c, int what) {
        if (!isCountry(c) || what < 0 || what > 1) {
            return NONE;
        }
        council.chooseMan(c);
        return council.answer(what);
    }

    public int from(int what) {
        if (what < 0 || what > 1) {
            return NONE;
        }
        council.chooseAge();
        return council.answer(what);
    }

    public int hears(int fact) {
        return isFact(fact) ? riddles.hearers(fact) : NONE;
    }

    public int knees(int fact, int man) {
        boolean canBe = isFact(fact) && told.hasMan(man) && !being.knows(man, fact);
        return canBe ? riddles.fewestTellings(fact, man) : NONE;
    }

    public int march(int man, int c, int n, int what) {
        boolean canBe = told.hasMan(man) && c >= 0 && c < CELLS && n >= 1 && n <= 12;
        if (!canBe || what < 0 || what > 1) {
            return NONE;
        }
        return riddles.bestMarch(man, c, n, what);
    }

    public int stands(int c, int what) {
        return isCountry(c) ? riddles.standIns(c, what) : NONE;
    }

    public int slipper(int day, int k, int legs) {
        return told.slippers.find(day, k, legs);
    }

    public int left() {
        return told.couldHaveLeft();
    }

    public int ask() {
        return riddles.firstAsked(told.couldHaveLeft());
    }

    public int forgets(int man, int n) {
        return told.hasMan(man) && n >= 0 && n <= MOST_DAYS ? riddles.forgotten(man, n) : NONE;
    }

    public int last() {
        return riddles.lastToRemember();
    }

    public int treaty(int what) {
        return what < 0 || what > 1 ? NONE : riddles.bestTreaty(what);
    }

    public boolean undo() {
        return undos.goBack(being);
    }

    public boolean image(boolean taken) {
        if (taken) {
            imageTold.become(told);
            imageBeing.become(being);
            imageBook.become(book);
            imageTaken = true;
        } else if (imageTaken) {
            told.become(imageTold);
            being.become(imageBeing);
            book.become(imageBook);
            undos.forgetAll();
        }
        return imageTaken;
    }

    public int look(int what) {
        switch (what) {
            case 0: return told.men;
            case 1: return being.day;
            case 2: return being.war;
            case 3: return told.keep;
            case 4: return told.rain;
            case 5: return told.tea;
            case 6: return told.hills;
            case 7: return being.lines;
            case 8: return being.draws;
            case 9: return told.law.lines;
            case 10: return told.tellingLines;
            case 11: return told.weightLines;
            case 12: return told.orders.lines;
            case 13: return told.slippers.count;
            case 14: return undos.count;
            default: return NONE;
        }
    }

    private static boolean isCountry(int c) {
        return c == 0 || c == 1;
    }

    private static boolean isFact(int fact) {
        return fact >= 0 && fact < FACTS;
    }

    /** The CELL from which a COUNTRY comes. */
    private static int endOf(int c) {
        return c == 0 ? 0 : CELLS - 1;
    }

    private static boolean holds(int set, int i) {
        return (set >> i & 1) == 1;
    }

    private static void copy(int[] from, int[] to) {
        System.arraycopy(from, 0, to, 0, Math.min(from.length, to.length));
    }

    /** What was told and no DAY changes: undoing leaves it alone, THE IMAGE holds it. */
    private static final class Told {
        int men;
        final int[] country = new int[MEN];
        final int[] age = new int[MEN];
        final int[] legs = new int[MEN];
        final int[] tells = new int[MEN];
        final int[] want = {2, 2};
        final int[] weight = {1, 1, 1, 1, 1, 1, 1, 1};
        int keep = 1;
        int rain;
        int tea = 3;
        int hills;
        int tellingLines;
        int weightLines;
        final Law law = new Law();
        final Orders orders = new Orders();
        final Slippers slippers = new Slippers();

        void become(Told other) {
            men = other.men;
            copy(other.country, country);
            copy(other.age, age);
            copy(other.legs, legs);
            copy(other.tells, tells);
            copy(other.want, want);
            copy(other.weight, weight);
            keep = other.keep;
            rain = other.rain;
            tea = other.tea;
            hills = other.hills;
            tellingLines = other.tellingLines;
            weightLines = other.weightLines;
            law.become(other.law);
            orders.become(other.orders);
            slippers.become(other.slippers);
        }

        boolean hasMan(int m) {
            return m >= 0 && m < men && m < MEN;
        }

        int ageOf(int m) {
            return hasMan(m) ? age[m] : NONE;
        }

        boolean put(int what, int who, int v) {
            if (v < 0 || v > mostOf(what)) {
                return false;
            }
            switch (what) {
                case 0: keep = v; return true;
                case 1: rain = v; return true;
                case 2: tea = v; return true;
                case 3: return putWant(who, v);
                case 4: return putHill(who, v);
                default: return false;
            }
        }

        private static int mostOf(int what) {
            switch (what) {
                case 1: return 9;
                case 3: return 9;
                case 4: return 1;
                default: return 99;
            }
        }

        private boolean putWant(int c, int v) {
            if (!isCountry(c)) {
                return false;
            }
            want[c] = v;
            return true;
        }

        private boolean putHill(int cell, int v) {
            if (cell < 0 || cell >= CELLS) {
                return false;
            }
            hills = v == 1 ? hills | 1 << cell : hills & ~(1 << cell);
            return true;
        }

        boolean isHill(int cell) {
            return cell >= 0 && cell < CELLS && holds(hills, cell);
        }

        int weightOf(int facts) {
            int sum = 0;
            for (int f = 0; f < FACTS; f++) {
                sum += holds(facts, f) ? weight[f] : 0;
            }
            return sum;
        }

        int couldHaveLeft() {
            int set = 0;
            for (int m = 0; m < MEN && m < men; m++) {
                set |= slippers.couldBeOf(legs[m]) ? 1 << m : 0;
            }
            return set;
        }
    }

    /** What DAYS, TEACHING and SENDING change, so what undoing brings back. */
    private static final class Being {
        final int[] breath = new int[MEN];
        final int[] knows = new int[MEN];
        final int[] coin = new int[MEN];
        final int[] where = new int[MEN];
        final int[] cell = new int[MEN];
        final int[] caught = new int[MEN];
        int war = 1;
        int day;
        int draws;
        int lines;

        void start(int m) {
            if (m < 0 || m >= MEN) {
                return;
            }
            breath[m] = 50;
            knows[m] = 0;
            coin[m] = 0;
            where[m] = HOME;
            cell[m] = 0;
            caught[m] = 0;
        }

        void become(Being other) {
            copy(other.breath, breath);
            copy(other.knows, knows);
            copy(other.coin, coin);
            copy(other.where, where);
            copy(other.cell, cell);
            copy(other.caught, caught);
            war = other.war;
            day = other.day;
            draws = other.draws;
            lines = other.lines;
        }

        boolean knows(int m, int fact) {
            return m >= 0 && m < MEN && holds(knows[m], fact);
        }

        /** A DRAW of m, which must be above 0. */
        int draw(int m) {
            draws = draws * 1664525 + 1013904223;
            return m > 0 ? (draws >>> 8) % m : 0;
        }
    }

    /** THE LAW as steps for a stack: a NUMBER is itself, names and signs are below 0. */
    private static final class Law {
        static final int NAMES = 9;
        static final int ADD = -10;
        static final int TAKE = -11;
        static final int TIMES = -12;
        static final int PART = -13;
        static final int LESS = -14;
        static final int SAME = -15;
        static final int MORE = -16;
        static final int AND = -17;
        static final int OR = -18;
        static final int NOT = -19;

        final int[] steps = new int[TAPE];
        final int[] word = new int[LINES];
        final int[] start = new int[LINES];
        final int[] when = new int[LINES];
        final int[] end = new int[LINES];
        // Eight open ( keep two pending values each, the innermost comparison four more.
        final int[] stack = new int[32];
        int length;
        int lines;

        void become(Law other) {
            copy(other.steps, steps);
            copy(other.word, word);
            copy(other.start, start);
            copy(other.when, when);
            copy(other.end, end);
            length = other.length;
            lines = other.lines;
        }

        void clear() {
            length = 0;
            lines = 0;
        }

        void put(int step) {
            if (length >= 0 && length < steps.length) {
                steps[length] = step;
                length++;
            }
        }

        void beginLine(int w) {
            if (lines >= 0 && lines < LINES) {
                word[lines] = w;
                start[lines] = length;
            }
        }

        void beginWhen() {
            if (lines >= 0 && lines < LINES) {
                when[lines] = length;
            }
        }

        void endLine() {
            if (lines >= 0 && lines < LINES) {
                end[lines] = length;
                lines++;
            }
        }

        int tell(int w, int[] names, int unsaid) {
            for (int i = 0; i < lines && i < LINES; i++) {
                if (word[i] == w && (when[i] == end[i] || run(when[i], end[i], names) == 1)) {
                    return run(start[i], when[i], names);
                }
            }
            return unsaid;
        }

        // One method with all signs: the calls down to it are as deep as the rules let them be.
        private int run(int from, int to, int[] names) {
            int top = 0;
            for (int i = from; i >= 0 && i < to && i < steps.length; i++) {
                int step = steps[i];
                if (step >= -NAMES && top >= 0 && top < stack.length) {
                    int name = -1 - step;
                    stack[top] = step >= 0 ? step : name < names.length ? names[name] : 0;
                    top++;
                    continue;
                }
                if (top < (step == NOT ? 1 : 2) || top > stack.length) {
                    return 0;
                }
                top = step == NOT ? top : top - 1;
                int a = stack[top - 1];
                int b = step == NOT ? 0 : stack[top];
                switch (step) {
                    case ADD: a = a + b; break;
                    case TAKE: a = a - b; break;
                    case TIMES: a = a * b; break;
                    case PART: a = b > 0 ? a / b : 0; break;
                    case LESS: a = a < b ? 1 : 0; break;
                    case SAME: a = a == b ? 1 : 0; break;
                    case MORE: a = a > b ? 1 : 0; break;
                    case AND: a = a & b; break;
                    case OR: a = a | b; break;
                    default: a = 1 - a; break;
                }
                stack[top - 1] = a;
            }
            return top > 0 && top <= stack.length ? stack[top - 1] : 0;
        }
    }

    private static final class Orders {
        final int[] day = new int[LINES];
        final int[] country = new int[LINES];
        final int[] rest = new int[LINES];
        int lines;

        void become(Orders other) {
            copy(other.day, day);
            copy(other.country, country);
            copy(other.rest, rest);
            lines = other.lines;
        }

        void add(int d, boolean rests, int c) {
            if (lines >= 0 && lines < LINES) {
                day[lines] = d;
                rest[lines] = rests ? 1 : 0;
                country[lines] = c;
                lines++;
            }
        }

        boolean rests(int d, int c) {
            boolean rests = false;
            for (int i = 0; i < lines && i < LINES; i++) {
                if (day[i] == d && country[i] == c) {
                    rests = rest[i] == 1;
                }
            }
            return rests;
        }
    }

    private static final class Slippers {
        static final int MOST = 10;
        final int[] day = new int[MOST];
        final int[] cell = new int[MOST];
        final int[] legs = new int[MOST];
        int count;

        void become(Slippers other) {
            copy(other.day, day);
            copy(other.cell, cell);
            copy(other.legs, legs);
            count = other.count;
        }

        int find(int d, int k, int l) {
            if (d == NONE) {
                count = 0;
                return 0;
            }
            boolean canBe = d >= 0 && d <= 30 && k >= 0 && k < CELLS && l >= 0 && l <= 9;
            if (!canBe || count < 0 || count >= MOST) {
                return NONE;
            }
            day[count] = d;
            cell[count] = k;
            legs[count] = l;
            count++;
            return count;
        }

        boolean couldBeOf(int hisLegs) {
            for (int i = 0; i < count && i < MOST; i++) {
                if (cell[i] > hisLegs * day[i] || legs[i] != 0 && legs[i] != hisLegs) {
                    return false;
                }
            }
            return true;
        }
    }

    /** THE BOOK's rows; how many of them hold stands in Being, for undoing shortens it. */
    private static final class Book {
        static final int PARTS = 4;
        static final int CALLED = 0;
        static final int CAUGHT = 1;
        static final int BEATEN = 2;
        static final int FORGOT = 3;
        static final int PEACE = 4;
        static final int FROM_TEA = 5;
        final int[] rows = new int[BOOK * PARTS];

        void become(Book other) {
            copy(other.rows, rows);
        }

        void write(int line, int day, int what, int man, int number) {
            if (line >= 0 && line < BOOK) {
                rows[line * PARTS] = day;
                rows[line * PARTS + 1] = what;
                rows[line * PARTS + 2] = man;
                rows[line * PARTS + 3] = number;
            }
        }

        int part(int line, int part) {
            boolean there = line >= 0 && line < BOOK && part >= 0 && part < PARTS;
            return there ? rows[line * PARTS + part] : NONE;
        }
    }

    /** The latest steps that can go back, at most six, in a ring. */
    private static final class Undos {
        static final int MOST = 6;
        final Being[] ring = new Being[MOST];
        int next;
        int count;

        Undos() {
            for (int i = 0; i < MOST; i++) {
                ring[i] = new Being();
            }
        }

        void forgetAll() {
            count = 0;
        }

        void remember(Being being) {
            if (next >= 0 && next < MOST && ring[next] != null) {
                ring[next].become(being);
                next = (next + 1) % MOST;
                count = Math.min(MOST, count + 1);
            }
        }

        boolean goBack(Being being) {
            int latest = (next + MOST - 1) % MOST;
            if (count <= 0 || latest < 0 || latest >= MOST || ring[latest] == null) {
                return false;
            }
            being.become(ring[latest]);
            next = latest;
            count--;
            return true;
        }
    }

    /** Lets DAYS go by, awake (with DRAWS and THE BOOK) or in thought (with neither). */
    private static final class Days {
        private final Told told;
        private final Being being;
        private final Book book;
        private final boolean awake;
        private final int[] names = new int[Law.NAMES];
        int fromAge;
        int captives;

        Days(Told told, Being being, Book book, boolean awake) {
            this.told = told;
            this.being = being;
            this.book = book;
            this.awake = awake;
        }

        void pass() {
            boolean war = being.war == 1;
            if (war) {
                callUp(0);
                callUp(1);
                goOn();
                fight();
                arrive();
            }
            if (being.day % 7 == 0) {
                tellOn();
            }
            if (awake) {
                fade();
            }
            if (war) {
                endDay();
            }
            being.day++;
        }

        /** What THE LAW tells of a MAN for a word, as he stands now. */
        int asked(int m, int word) {
            if (!told.hasMan(m)) {
                return 0;
            }
            boolean inField = being.where[m] == FIELD;
            names[0] = told.country[m];
            names[1] = told.age[m];
            names[2] = told.legs[m];
            names[3] = being.breath[m];
            names[4] = Integer.bitCount(being.knows[m]);
            names[5] = inField ? being.cell[m] : 0;
            names[6] = being.day;
            names[7] = told.rain;
            names[8] = inField && told.isHill(being.cell[m]) ? 1 : 0;
            switch (word) {
                case CALL: return held(told.law.tell(CALL, names, told.age[m] - 59), 120);
                case STEP: return held(told.law.tell(STEP, names, told.legs[m]), 9);
                case NAP: return held(told.law.tell(NAP, names, 0), 99);
                default: return held(told.law.tell(FADE, names, 50), 1000);
            }
        }

        private static int held(int v, int most) {
            return Math.max(0, Math.min(v, most));
        }

        int howManyInField(int c) {
            int n = 0;
            for (int m = 0; m < MEN && m < told.men; m++) {
                n += told.country[m] == c && being.where[m] == FIELD ? 1 : 0;
            }
            return n;
        }

        int known(int c) {
            int facts = 0;
            for (int m = 0; m < MEN && m < told.men; m++) {
                facts |= told.country[m] == c ? being.knows[m] : 0;
            }
            return facts;
        }

        int breathOf(int c) {
            int sum = 0;
            for (int m = 0; m < MEN && m < told.men; m++) {
                sum += told.country[m] == c ? being.breath[m] : 0;
            }
            return sum;
        }

        private void note(int what, int man, int number) {
            if (awake && being.lines < BOOK) {
                book.write(being.lines, being.day, what, man, number);
                being.lines++;
            }
        }

        private void callUp(int c) {
            if (!isCountry(c) || howManyInField(c) >= told.want[c]) {
                return;
            }
            int best = NONE;
            int most = 0;
            for (int m = 0; m < MEN && m < told.men; m++) {
                if (told.country[m] != c || being.where[m] != HOME || told.age[m] < fromAge) {
                    continue;
                }
                int call = asked(m, CALL);
                boolean older = best != NONE && told.age[m] > told.age[best];
                if (call > most || best != NONE && call == most && older) {
                    best = m;
                    most = call;
                }
            }
            if (best != NONE) {
                being.where[best] = FIELD;
                being.cell[best] = endOf(c);
                note(Book.CALLED, best, endOf(c));
            }
        }

        private void goOn() {
            boolean rest0 = told.orders.rests(being.day, 0);
            boolean rest1 = told.orders.rests(being.day, 1);
            for (int m = 0; m < MEN && m < told.men; m++) {
                if (being.where[m] != FIELD) {
                    continue;
                }
                boolean rests = told.country[m] == 0 ? rest0 : rest1;
                int breaths = rests ? 10 : asked(m, NAP);
                if (breaths > 0) {
                    being.breath[m] = Math.min(BREATH, being.breath[m] + breaths);
                } else {
                    walk(m, asked(m, STEP));
                }
            }
        }

        private void walk(int m, int steps) {
            if (!told.hasMan(m)) {
                return;
            }
            int c = told.country[m];
            int ahead = c == 0 ? 1 : -1;
            int others = cellsOf(1 - c);
            int left = steps;
            for (int i = 0; i < CELLS && left > 0; i++) {
                int next = being.cell[m] + ahead;
                int cost = told.isHill(next) ? 2 : 1;
                boolean beyond = next < 0 || next >= CELLS;
                if (beyond || cost > left || holds(others, being.cell[m])) {
                    return;
                }
                being.cell[m] = next;
                left -= cost;
            }
        }

        /** The CELLS in which some of a COUNTRY are, as a set. */
        private int cellsOf(int c) {
            int set = 0;
            for (int m = 0; m < MEN && m < told.men; m++) {
                set |= told.country[m] == c && being.where[m] == FIELD ? 1 << being.cell[m] : 0;
            }
            return set;
        }

        private void fight() {
            int both = cellsOf(0) & cellsOf(1);
            for (int cell = 0; cell < CELLS; cell++) {
                if (!holds(both, cell)) {
                    continue;
                }
                int ahead = breathAt(0, cell) - breathAt(1, cell);
                if (ahead == 0) {
                    halve(cell);
                } else {
                    catchYoungest(ahead < 0 ? 0 : 1, cell);
                    beat(ahead < 0 ? 0 : 1, cell);
                }
            }
        }

        private boolean isAt(int m, int cell) {
            return told.hasMan(m) && being.where[m] == FIELD && being.cell[m] == cell;
        }

        private int breathAt(int c, int cell) {
            int sum = 0;
            for (int m = 0; m < MEN && m < told.men; m++) {
                sum += told.country[m] == c && isAt(m, cell) ? being.breath[m] : 0;
            }
            return sum;
        }

        private void halve(int cell) {
            for (int m = 0; m < MEN && m < told.men; m++) {
                if (isAt(m, cell)) {
                    being.breath[m] /= 2;
                }
            }
        }

        private void beat(int loser, int cell) {
            for (int m = 0; m < MEN && m < told.men; m++) {
                if (!isAt(m, cell)) {
                    continue;
                }
                if (told.country[m] != loser) {
                    being.breath[m] = Math.max(0, being.breath[m] - 10);
                } else {
                    being.where[m] = HOME;
                    being.breath[m] /= 2;
                    note(Book.BEATEN, m, cell);
                }
            }
        }

        private void catchYoungest(int c, int cell) {
            int youngest = NONE;
            for (int m = 0; m < MEN && m < told.men; m++) {
                boolean his = told.country[m] == c && isAt(m, cell);
                if (his && (youngest == NONE || told.age[m] < told.age[youngest])) {
                    youngest = m;
                }
            }
            if (youngest != NONE) {
                being.where[youngest] = CAPTIVE;
                being.caught[youngest] = being.day;
                captives++;
                note(Book.CAUGHT, youngest, cell);
            }
        }

        private void arrive() {
            int ours = cellsOf(0);
            int theirs = cellsOf(1);
            boolean through = holds(ours, endOf(1)) && !holds(theirs, endOf(1));
            if (through || holds(theirs, endOf(0)) && !holds(ours, endOf(0))) {
                being.war = 0;
            }
        }

        private void tellOn() {
            for (int m = 0; m < MEN && m < told.men; m++) {
                for (int to = 0; to < MEN && to < told.men; to++) {
                    boolean bothHome = being.where[m] == HOME && being.where[to] == HOME;
                    if (bothHome && holds(told.tells[m], to)) {
                        being.knows[to] |= being.knows[m];
                    }
                }
            }
        }

        private void fade() {
            for (int m = 0; m < MEN && m < told.men; m++) {
                if (being.knows[m] != 0 && being.draw(1000) < asked(m, FADE)) {
                    int fact = leastOf(being.knows[m]);
                    being.knows[m] &= ~(1 << fact);
                    note(Book.FORGOT, m, fact);
                }
            }
        }

        private static int leastOf(int facts) {
            int fact = 0;
            while (fact < FACTS - 1 && !holds(facts, fact)) {
                fact++;
            }
            return fact;
        }

        private void endDay() {
            if (told.weightOf(known(0)) < told.keep || told.weightOf(known(1)) < told.keep) {
                being.war = 0;
            }
            for (int m = 0; m < MEN && m < told.men; m++) {
                if (being.where[m] == CAPTIVE && being.day - being.caught[m] >= told.tea) {
                    being.where[m] = HOME;
                    note(Book.FROM_TEA, m, 0);
                }
            }
            if (being.war == 0) {
                Arrays.fill(being.where, HOME);
                note(Book.PEACE, NONE, 0);
            }
        }
    }

    /** What is thought of DAYS to come: they go by in a mind of its own. */
    private static final class Council {
        static final int LONGEST = 99;
        private final Told told;
        private final Being real;
        private final Being mind = new Being();
        private final Days days;
        private int chosen;
        private int least;

        Council(Told told, Being real, Book book) {
            this.told = told;
            this.real = real;
            days = new Days(told, mind, book, false);
        }

        int lasting(int what) {
            imagine(0);
            int lasts = until(LONGEST);
            switch (what) {
                case 0: return lasts;
                case 1: return days.captives;
                default: return days.breathOf(what - 2);
            }
        }

        void chooseMan(int c) {
            chosen = NONE;
            least = LONGEST + 1;
            for (int m = 0; m < MEN && m < told.men; m++) {
                if (told.country[m] != c || real.where[m] != HOME) {
                    continue;
                }
                imagine(0);
                mind.where[m] = FIELD;
                mind.cell[m] = endOf(c);
                take(m, until(least - 1));
            }
        }

        void chooseAge() {
            chosen = NONE;
            least = LONGEST + 1;
            for (int age = 120; age >= 0; age -= 10) {
                imagine(age);
                take(age, until(least - 1));
            }
        }

        int answer(int what) {
            return what == 0 || chosen == NONE ? chosen : least;
        }

        private void imagine(int fromAge) {
            mind.become(real);
            days.fromAge = fromAge;
            days.captives = 0;
        }

        /** DAYS until WAR is 0; NONE if that is not within so many. */
        private int until(int most) {
            int d = 0;
            while (d < most && mind.war == 1) {
                days.pass();
                d++;
            }
            return mind.war == 0 ? d : NONE;
        }

        // Only a lesser one is taken: the choices come in the order in which they are preferred.
        private void take(int choice, int lasts) {
            if (lasts != NONE && lasts < least) {
                chosen = choice;
                least = lasts;
            }
        }
    }

    /** Questions that no DAY answers. */
    private static final class Riddles {
        // More than all COIN of one way together, so that one pair more outweighs any COIN.
        static final int PAIR = 10000;
        private final Told told;
        private final Being being;
        private final Days days;
        private final int[] room = new int[MEN * MEN];
        private final int[] before = new int[MEN];
        private final int[] queue = new int[MEN];
        private final int[] young = new int[MEN];
        private final int[] old = new int[MEN];
        private final int[] goer = new int[MEN];
        private final int[] ways = new int[1 << MEN];
        private final int[] chances = new int[FACTS + 1];
        private int youngs;
        private int olds;

        Riddles(Told told, Being being, Days days) {
            this.told = told;
            this.being = being;
            this.days = days;
        }

        private int knowers(int fact) {
            int set = 0;
            for (int m = 0; m < MEN && m < told.men; m++) {
                set |= holds(being.knows[m], fact) ? 1 << m : 0;
            }
            return set;
        }

        int hearers(int fact) {
            int set = knowers(fact);
            for (int turn = 0; turn < MEN; turn++) {
                for (int m = 0; m < MEN && m < told.men; m++) {
                    set |= holds(set, m) ? told.tells[m] : 0;
                }
            }
            return set;
        }

        /** As many tellings must not be as there are ways that share no telling. */
        int fewestTellings(int fact, int man) {
            for (int i = 0; i < MEN; i++) {
                for (int j = 0; j < MEN; j++) {
                    room[i * MEN + j] = holds(told.tells[i], j) ? 1 : 0;
                }
            }
            int ways = 0;
            while (ways < MEN && findWay(knowers(fact), man)) {
                useWay(man);
                ways++;
            }
            return ways;
        }

        private boolean findWay(int sources, int man) {
            int reached = sources;
            int tail = 0;
            for (int m = 0; m < MEN; m++) {
                before[m] = NONE;
                if (holds(sources, m) && tail < MEN) {
                    queue[tail] = m;
                    tail++;
                }
            }
            for (int head = 0; head < tail && head < MEN; head++) {
                int m = queue[head];
                for (int to = 0; to < MEN; to++) {
                    boolean open = m >= 0 && m < MEN && room[m * MEN + to] > 0;
                    if (open && !holds(reached, to) && tail < MEN) {
                        reached |= 1 << to;
                        before[to] = m;
                        queue[tail] = to;
                        tail++;
                    }
                }
            }
            return holds(reached, man);
        }

        private void useWay(int man) {
            int to = man;
            for (int i = 0; i < MEN && to >= 0 && to < MEN; i++) {
                int m = before[to];
                if (m < 0 || m >= MEN) {
                    return;
                }
                room[m * MEN + to]--;
                room[to * MEN + m]++;
                to = m;
            }
        }

        int bestMarch(int man, int c, int n, int what) {
            if (!told.hasMan(man) || told.legs[man] <= 0) {
                return NONE;
            }
            int goes = (c + told.legs[man] - 1) / told.legs[man];
            int most = NONE;
            int best = NONE;
            // Day 0 is the highest bit here, so that rows come in the order asked for.
            for (int row = 0; row < 1 << n; row++) {
                int breath = Integer.bitCount(row) == goes ? breathBehind(man, c, n, row) : NONE;
                if (breath > most) {
                    most = breath;
                    best = row;
                }
            }
            return what == 0 || best == NONE ? most : turned(best, n);
        }

        private static int turned(int row, int n) {
            int turned = 0;
            for (int i = 0; i < n; i++) {
                turned |= holds(row, i) ? 1 << n - 1 - i : 0;
            }
            return turned;
        }

        private int breathBehind(int man, int c, int n, int row) {
            int breath = being.breath[man];
            int left = c;
            for (int i = n - 1; i >= 0 && breath >= 0; i--) {
                if (holds(row, i)) {
                    int cells = Math.min(left, told.legs[man]);
                    left -= cells;
                    breath -= 5 * cells;
                } else {
                    breath = Math.min(BREATH, breath + 10);
                }
            }
            return breath < 0 ? NONE : breath;
        }

        int standIns(int c, int what) {
            gather(c);
            weighWays();
            return chooseGoers(what);
        }

        private void gather(int c) {
            youngs = 0;
            olds = 0;
            for (int m = 0; m < MEN && m < told.men; m++) {
                if (told.country[m] == c && being.where[m] == FIELD && youngs < MEN) {
                    young[youngs] = m;
                    youngs++;
                } else if (told.country[m] == c && being.where[m] == HOME && olds < MEN) {
                    old[olds] = m;
                    olds++;
                }
            }
        }

        /** What it is worth that old[j] goes for young[i]; 0 if he may not. */
        private int worth(int i, int j) {
            if (i < 0 || i >= youngs || i >= MEN || j < 0 || j >= olds || j >= MEN) {
                return 0;
            }
            int older = told.ageOf(old[j]) - told.ageOf(young[i]);
            return older > 0 ? PAIR - older : 0;
        }

        /** The most that young[i] and those behind him are worth when some of the olds are used. */
        private int way(int i, int used) {
            int at = (i << olds) + used;
            return i >= youngs || at < 0 || at >= ways.length ? 0 : ways[at];
        }

        private void weighWays() {
            for (int i = youngs - 1; i >= 0; i--) {
                for (int used = 0; used < 1 << olds; used++) {
                    int most = way(i + 1, used);
                    for (int j = 0; j < olds; j++) {
                        int worth = holds(used, j) ? 0 : worth(i, j);
                        most = worth == 0 ? most : Math.max(most, worth + way(i + 1, used | 1 << j));
                    }
                    int at = (i << olds) + used;
                    if (at >= 0 && at < ways.length) {
                        ways[at] = most;
                    }
                }
            }
        }

        private int chooseGoers(int what) {
            Arrays.fill(goer, NONE);
            int used = 0;
            int pairs = 0;
            int coin = 0;
            for (int i = 0; i < youngs && i < MEN; i++) {
                for (int j = 0; j < olds && j < MEN; j++) {
                    int worth = holds(used, j) ? 0 : worth(i, j);
                    if (worth != 0 && worth + way(i + 1, used | 1 << j) == way(i, used)) {
                        goer[i] = old[j];
                        used |= 1 << j;
                        pairs++;
                        coin += PAIR - worth;
                        break;
                    }
                }
            }
            switch (what) {
                case 0: return pairs;
                case 1: return coin;
                default: return goerFor(what - 10);
            }
        }

        private int goerFor(int man) {
            for (int i = 0; i < youngs && i < MEN; i++) {
                if (young[i] == man) {
                    return goer[i];
                }
            }
            return NONE;
        }

        int firstAsked(int suspects) {
            if (Integer.bitCount(suspects) < 2) {
                return NONE;
            }
            int best = NONE;
            int least = MEN + 1;
            for (int l = 1; l <= 9; l++) {
                int slow = 0;
                for (int m = 0; m < MEN && m < told.men; m++) {
                    slow += holds(suspects, m) && told.legs[m] <= l ? 1 : 0;
                }
                int greater = Math.max(slow, Integer.bitCount(suspects) - slow);
                if (greater < least) {
                    best = l;
                    least = greater;
                }
            }
            return best;
        }

        int forgotten(int man, int n) {
            if (!told.hasMan(man)) {
                return NONE;
            }
            int fade = days.asked(man, FADE);
            int knows = Math.min(FACTS, Integer.bitCount(being.knows[man]));
            Arrays.fill(chances, 0);
            chances[knows] = 1000000;
            for (int d = 0; d < n; d++) {
                // Upwards, so that nobody forgets two in one DAY.
                for (int k = 1; k <= FACTS; k++) {
                    int gone = chances[k] * fade / 1000;
                    chances[k] -= gone;
                    chances[k - 1] += gone;
                }
            }
            return chances[0];
        }

        int lastToRemember() {
            int best = NONE;
            int most = NONE;
            for (int m = 0; m < MEN && m < told.men; m++) {
                int knows = Integer.bitCount(being.knows[m]);
                boolean older = best != NONE && told.age[m] > told.age[best];
                if (knows > most || knows == most && older) {
                    best = m;
                    most = knows;
                }
            }
            return best;
        }

        int bestTreaty(int what) {
            int known = days.known(0) | days.known(1);
            int best = NONE;
            int least = NONE;
            for (int set = 0; set < 1 << FACTS; set++) {
                if ((set & ~known) != 0 || !endsWar(set)) {
                    continue;
                }
                int weight = told.weightOf(set);
                boolean fewer = Integer.bitCount(set) < Integer.bitCount(best);
                if (best == NONE || weight < least || weight == least && fewer) {
                    best = set;
                    least = weight;
                }
            }
            return what == 0 ? least : best;
        }

        private boolean endsWar(int forgotten) {
            return told.weightOf(days.known(0) & ~forgotten) < told.keep
                    || told.weightOf(days.known(1) & ~forgotten) < told.keep;
        }
    }

    /** The TAPE, cut into tokens, read as a TEXT; what was told changes only when all is read. */
    private static final class Reader {
        static final int END = 0;
        static final int NUMBER = 1;
        static final int BAD = 2;
        static final int WORD = 256;
        static final int WHEN = WORD + 4;
        static final int OR = WORD + 5;
        static final int AND = WORD + 6;
        static final int NOT = WORD + 7;
        static final int NAME = WORD + 8;
        static final int OPEN = 8;

        private final int[] tape = new int[TAPE];
        private final int[] kinds = new int[TAPE + 1];
        private final int[] places = new int[TAPE + 1];
        private final int[] values = new int[TAPE + 1];
        private final Law law = new Law();
        private final Orders orders = new Orders();
        private final int[] tells = new int[MEN];
        private final int[] weight = new int[FACTS];
        private int tokens;
        private int at;
        private int kind;
        private int lines;
        int length;
        int fault;
        int place = NONE;

        boolean hasRoom() {
            return length >= 0 && length + 20 <= TAPE;
        }

        void add(int four) {
            for (int shift = 24; shift >= 0; shift -= 8) {
                if (length >= 0 && length < TAPE) {
                    tape[length] = four >>> shift & 255;
                    length++;
                }
            }
        }

        int read(int text, Told told) {
            int size = Math.min(length, TAPE);
            length = 0;
            fault = 0;
            place = NONE;
            if (text < LAW || text > ORDERS) {
                return NONE;
            }
            cut(size, text);
            clear();
            for (int i = 0; i <= TAPE && kind != END; i++) {
                switch (text) {
                    case LAW: lawLine(); break;
                    case TELLING: tellingLine(told.men); break;
                    case WEIGHTS: weightLine(); break;
                    default: orderLine(); break;
                }
            }
            if (fault != 0) {
                return NONE;
            }
            hand(text, told);
            return lines;
        }

        private void clear() {
            go(0);
            lines = 0;
            law.clear();
            orders.lines = 0;
            Arrays.fill(tells, 0);
            Arrays.fill(weight, 1);
        }

        private void hand(int text, Told told) {
            switch (text) {
                case LAW:
                    told.law.become(law);
                    break;
                case TELLING:
                    copy(tells, told.tells);
                    told.tellingLines = lines;
                    break;
                case WEIGHTS:
                    copy(weight, told.weight);
                    told.weightLines = lines;
                    break;
                default:
                    told.orders.become(orders);
                    break;
            }
        }

        private static String keywords(int text) {
            switch (text) {
                case LAW: return "call step nap fade when or and not country age legs breath facts cell day rain hill";
                case TELLING: return "tells and";
                case WEIGHTS: return "fact weighs";
                default: return "on rest go";
            }
        }

        private void cut(int size, int text) {
            tokens = 0;
            int i = 0;
            for (int turn = 0; turn < TAPE && i >= 0 && i < size && i < TAPE; turn++) {
                int b = tape[i];
                int end = i + 1;
                if (isLetter(b)) {
                    end = endOfWord(i, size);
                    token(WORD + keyword(keywords(text), i, end), i, 0);
                } else if (isDigit(b)) {
                    end = endOfDigits(i, size);
                    token(end - i <= 4 ? NUMBER : BAD, i, value(i, end));
                } else if (b != ' ' && b != 10) {
                    token(";+-*/()<=>".indexOf((char) b) >= 0 ? b : BAD, i, 0);
                }
                i = end;
            }
            token(END, size, 0);
        }

        private void token(int kind, int where, int value) {
            if (tokens >= 0 && tokens < kinds.length) {
                kinds[tokens] = kind;
                places[tokens] = where;
                values[tokens] = value;
                tokens++;
            }
        }

        private static boolean isLetter(int b) {
            return b >= 'a' && b <= 'z' || b >= 'A' && b <= 'Z';
        }

        private static boolean isDigit(int b) {
            return b >= '0' && b <= '9';
        }

        private int endOfWord(int from, int size) {
            int end = Math.max(0, from);
            while (end < size && end < TAPE && isLetter(tape[end])) {
                end++;
            }
            return end;
        }

        private int endOfDigits(int from, int size) {
            int end = Math.max(0, from);
            while (end < size && end < TAPE && isDigit(tape[end])) {
                end++;
            }
            return end;
        }

        private int value(int from, int end) {
            int v = 0;
            for (int i = Math.max(0, from); i < end && i < from + 4 && i < TAPE; i++) {
                v = v * 10 + tape[i] - '0';
            }
            return v;
        }

        /** The number of a word among those of a list; NONE, which makes a kind that no one asks for. */
        private int keyword(String list, int from, int end) {
            int n = 0;
            int start = 0;
            for (int i = 0; i <= list.length(); i++) {
                if (i == list.length() || list.charAt(i) == ' ') {
                    if (i - start == end - from && same(list, start, from, end)) {
                        return n;
                    }
                    n++;
                    start = i + 1;
                }
            }
            return NONE;
        }

        private boolean same(String list, int start, int from, int end) {
            for (int i = 0; from + i < end; i++) {
                boolean there = start + i < list.length() && from + i < TAPE;
                if (!there || list.charAt(start + i) != tape[from + i]) {
                    return false;
                }
            }
            return true;
        }

        private void go(int token) {
            at = token;
            kind = at >= 0 && at < tokens && at < kinds.length ? kinds[at] : END;
        }

        // Behind a FAULT only the end is seen: nothing more is taken, and the first one stays.
        private void fail(int f) {
            if (fault == 0) {
                fault = f;
                place = at >= 0 && at < places.length ? places[at] : NONE;
                kind = END;
            }
        }

        private boolean take(int wanted) {
            if (kind != wanted) {
                return false;
            }
            go(at + 1);
            return true;
        }

        private void need(int wanted) {
            if (!take(wanted)) {
                fail(1);
            }
        }

        /** A NUMBER from 0 to most, but one; NONE if it is another, or none. */
        private int number(int most, int but) {
            if (kind != NUMBER || at < 0 || at >= values.length) {
                fail(1);
                return NONE;
            }
            int v = values[at];
            if (v > most || v == but) {
                fail(2);
                return NONE;
            }
            go(at + 1);
            return v;
        }

        private void beginLine(int keyword) {
            if (kind == keyword && lines == LINES) {
                fail(3);
            } else {
                need(keyword);
            }
        }

        private void lawLine() {
            int word = kind - WORD;
            beginLine(word < CALL || word > FADE ? NONE : kind);
            law.beginLine(word);
            sum();
            law.beginWhen();
            if (take(WHEN)) {
                condition(0);
            }
            need(';');
            law.endLine();
            lines++;
        }

        /** B and A of the grammar, within so many ( and not that are open. */
        private void condition(int open) {
            boolean more = true;
            for (int ors = 0; ors <= TAPE && more; ors++) {
                single(open);
                for (int ands = 0; ands <= TAPE && take(AND); ands++) {
                    single(open);
                    law.put(Law.AND);
                }
                if (ors > 0) {
                    law.put(Law.OR);
                }
                more = take(OR);
            }
        }

        /** C of the grammar. */
        private void single(int open) {
            int nots = 0;
            while (open + nots < OPEN && take(NOT)) {
                nots++;
            }
            if ((kind == NOT || kind == '(') && open + nots >= OPEN) {
                fail(3);
            } else if (take('(')) {
                condition(open + nots + 1);
                need(')');
            } else {
                sum();
                int sign = kind == '<' ? Law.LESS : kind == '=' ? Law.SAME : Law.MORE;
                need(kind == '<' || kind == '=' ? kind : '>');
                sum();
                law.put(sign);
            }
            for (int i = 0; i < nots && i < OPEN; i++) {
                law.put(Law.NOT);
            }
        }

        /** E and T of the grammar. */
        private void sum() {
            int sign = 0;
            boolean more = true;
            for (int i = 0; i <= TAPE && more; i++) {
                unit();
                for (int j = 0; j <= TAPE && (kind == '*' || kind == '/'); j++) {
                    if (take('*')) {
                        unit();
                        law.put(Law.TIMES);
                    } else {
                        go(at + 1);
                        law.put(Math.max(0, number(9999, 0)));
                        law.put(Law.PART);
                    }
                }
                if (sign != 0) {
                    law.put(sign);
                }
                sign = kind == '+' ? Law.ADD : Law.TAKE;
                more = take('+') || take('-');
            }
        }

        private void unit() {
            int name = kind - NAME;
            if (name >= 0 && name < Law.NAMES) {
                law.put(-1 - name);
                go(at + 1);
            } else if (kind == NUMBER && at >= 0 && at < values.length) {
                law.put(values[at]);
                go(at + 1);
            } else {
                fail(1);
            }
        }

        private void tellingLine(int men) {
            int first = at;
            int teller = number(men - 1, NONE);
            if (teller != NONE && lines == LINES) {
                go(first);
                fail(3);
            }
            need(WORD);
            int others = 0;
            boolean more = true;
            for (int i = 0; i < TAPE && more; i++) {
                int m = number(men - 1, teller);
                others |= m >= 0 && m < MEN ? 1 << m : 0;
                more = take(WORD + 1);
            }
            need(';');
            if (fault == 0 && teller >= 0 && teller < MEN) {
                tells[teller] |= others;
            }
            lines++;
        }

        private void weightLine() {
            beginLine(WORD);
            int fact = number(FACTS - 1, NONE);
            need(WORD + 1);
            int n = number(99, NONE);
            need(';');
            if (fault == 0 && isFact(fact)) {
                weight[fact] = n;
            }
            lines++;
        }

        private void orderLine() {
            beginLine(WORD);
            int day = number(999, NONE);
            boolean rests = kind == WORD + 1;
            need(rests ? WORD + 1 : WORD + 2);
            int c = number(1, NONE);
            need(';');
            if (fault == 0) {
                orders.add(day, rests, c);
            }
            lines++;
        }
    }
}
