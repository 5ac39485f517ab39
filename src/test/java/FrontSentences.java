/** Terms ahead of their numbers, and Terms 1: what there is, and how much of it. */
final class FrontSentences {
    private static final int LEAST = Integer.MIN_VALUE;
    private static final int MOST = Integer.MAX_VALUE;

    @Sentence(of = "Terms", says = "Quotients go downwards but where it is said.")
    static void halfOfAnOddBreath(Due t) {
        OldestDown x = Due.war(0, 70, 9, 1, 70, 9);
        x.set(5, 0, 51);
        x.set(5, 1, 51);
        x.days(1);
        t.due("half of 51", x.of(0, 3), 25);
        t.due("half of 51", x.of(1, 3), 25);
        x.set(5, 0, 1);
        x.set(5, 1, 1);
        x.days(1);
        t.due("half of 1", x.of(0, 3), 0);
        x.days(1);
        t.due("half of 0", x.of(0, 3), 0);
    }

    @Sentence(of = "Terms", says = "STATE of draws (an int, 0 at first)")
    static void stateIsAnyInt(Due t) {
        OldestDown x = new OldestDown();
        t.due("at first", x.look(8), 0);
        for (int s : new int[] {MOST, LEAST, -1, 0, 1}) {
            x.state(s);
            t.due("told", x.look(8), s);
        }
    }

    private static int next(int state) {
        return (int) (1664525L * state + 1013904223L);
    }

    @Sentence(of = "Terms", says = "a DRAW of m: it becomes 1664525 times itself + 1013904223 (ints, which wrap)")
    static void aDrawWraps(Due t) {
        for (int s : new int[] {0, 1, 77, -1, 2020, 1 << 30, MOST, LEAST, LEAST + 1}) {
            OldestDown x = Due.war(0, 20, 1);
            x.teach(0, 0);
            x.state(s);
            x.days(1);
            t.due("STATE behind " + s, x.look(8), next(s));
        }
    }

    @Sentence(of = "Terms", says = "then it is its highest 24 bits (without sign) modulo m.")
    static void aDrawIsItsHighestBits(Due t) {
        int signed = 0;
        for (int i = 0; i < 40; i++) {
            int s = i * 123456789;
            long without = next(s) < 0 ? next(s) + (1L << 32) : next(s);
            int draw = (int) (without / 256 % 1000);
            signed += next(s) < 0 ? 1 : 0;
            for (int more = 0; more < 2; more++) {
                OldestDown x = Due.war(0, 20, 1);
                x.teach(0, 0);
                Due.tell(x, 0, "fade " + (draw + more) + ";");
                x.state(s);
                x.days(1);
                t.due("KNOWS behind a DRAW of " + draw + ", fade " + (draw + more), x.of(0, 4), 1 - more);
            }
        }
        t.due("some are below 0", signed > 0 && signed < 40, true);
    }

    @Sentence(of = "Terms 1", says = "COUNTRIES 0, 1.")
    static void twoCountries(Due t) {
        OldestDown x = new OldestDown();
        t.due("of 0", x.man(0, 60, 3), 0);
        t.due("of 1", x.man(1, 60, 3), 1);
        t.due("its MAN", x.of(0, 0), 0);
        t.due("its MAN", x.of(1, 0), 1);
        for (int c : new int[] {-1, 2, LEAST, MOST}) {
            t.due("a MAN of " + c, x.man(c, 60, 3), -1);
            t.due("country " + c, x.country(c, 3), -1);
        }
    }

    @Sentence(of = "Terms 1", says = "CELLS 0 .. 15 of THE FRONT; HILLS: some of them (none at first).")
    static void sixteenCells(Due t) {
        OldestDown x = new OldestDown();
        t.due("none at first", x.look(6), 0);
        for (int cell : new int[] {-1, 16, 31, 32, LEAST, MOST}) {
            t.due("HILL " + cell, x.set(4, cell, 1), false);
            t.due("no HILL " + cell, x.set(4, cell, 0), false);
        }
        t.due("none yet", x.look(6), 0);
        for (int cell = 0; cell < 16; cell++) {
            t.due("HILL " + cell, x.set(4, cell, 1), true);
            t.due("HILLS", x.look(6), (2 << cell) - 1);
        }
    }

    @Sentence(of = "Terms 1", says = "Country 0 comes from CELL 0 upwards, 1 from CELL 15 downwards.")
    static void towardsEachOther(Due t) {
        OldestDown x = Due.war(0, 70, 2, 1, 70, 3);
        x.days(1);
        t.due("upwards", x.of(0, 7), 2);
        t.due("downwards", x.of(1, 7), 12);
        x.days(1);
        t.due("upwards", x.of(0, 7), 4);
        t.due("downwards", x.of(1, 7), 9);
    }

    @Sentence(of = "Terms 1", says = "MEN 0 .. 11 as they come: COUNTRY")
    static void twelveMen(Due t) {
        OldestDown x = new OldestDown();
        for (int m = 0; m < 12; m++) {
            t.due("one that can't be", x.man(0, 121, 3), -1);
            t.due("MAN", x.man(m % 3 == 0 ? 1 : 0, 60 + m, 3), m);
        }
        t.due("the 13th", x.man(0, 60, 3), -1);
        t.due("MEN", x.look(0), 12);
        for (int m = 0; m < 12; m++) {
            t.due("COUNTRY of " + m, x.of(m, 0), m % 3 == 0 ? 1 : 0);
            t.due("AGE of " + m, x.of(m, 1), 60 + m);
        }
        t.due("no MAN 12", x.of(12, 0), -2);
    }

    @Sentence(of = "Terms 1", says = "AGE 0 .. 120")
    static void ages(Due t) {
        OldestDown x = new OldestDown();
        for (int age : new int[] {-1, 121, LEAST, MOST}) t.due("AGE " + age, x.man(0, age, 3), -1);
        t.due("no MEN", x.look(0), 0);
        t.due("AGE 0", x.man(0, 0, 3), 0);
        t.due("AGE 120", x.man(0, 120, 3), 1);
        t.due("AGE", x.of(0, 1), 0);
        t.due("AGE", x.of(1, 1), 120);
    }

    @Sentence(of = "Terms 1", says = "LEGS 1 .. 9")
    static void legs(Due t) {
        OldestDown x = new OldestDown();
        for (int legs : new int[] {0, -1, 10, LEAST, MOST}) t.due("LEGS " + legs, x.man(0, 60, legs), -1);
        t.due("no MEN", x.look(0), 0);
        t.due("LEGS 1", x.man(0, 60, 1), 0);
        t.due("LEGS 9", x.man(0, 60, 9), 1);
        t.due("LEGS", x.of(0, 2), 1);
        t.due("LEGS", x.of(1, 2), 9);
    }

    @Sentence(of = "Terms 1", says = "BREATH 0 .. 99 (50 at first)")
    static void breath(Due t) {
        OldestDown x = Due.men(0, 60, 3, 1, 60, 3);
        t.due("at first", x.of(1, 3), 50);
        for (int v : new int[] {-1, 100, LEAST, MOST}) t.due("BREATH " + v, x.set(5, 1, v), false);
        t.due("as it was", x.of(1, 3), 50);
        for (int v : new int[] {0, 99}) {
            t.due("BREATH " + v, x.set(5, 1, v), true);
            t.due("BREATH", x.of(1, 3), v);
        }
        t.due("of the other", x.of(0, 3), 50);
    }

    @Sentence(of = "Terms 1", says = "KNOWS: FACTS 0 .. 7 (a set; none at first)")
    static void facts(Due t) {
        OldestDown x = Due.men(0, 60, 3, 1, 60, 3);
        t.due("none at first", x.of(1, 4), 0);
        for (int f : new int[] {-1, 8, 31, 32, LEAST, MOST}) t.due("FACT " + f, x.teach(1, f), false);
        t.due("none yet", x.of(1, 4), 0);
        for (int f = 7; f >= 0; f--) {
            t.due("FACT " + f, x.teach(1, f), true);
            t.due("KNOWS", x.of(1, 4), 256 - (1 << f));
        }
        t.due("the other KNOWS", x.of(0, 4), 0);
    }

    @Sentence(of = "Terms 1", says = "COIN 0 .. 999 (0)")
    static void coin(Due t) {
        OldestDown x = Due.men(0, 60, 3, 1, 60, 3);
        t.due("at first", x.of(1, 5), 0);
        for (int v : new int[] {-1, 1000, LEAST, MOST}) t.due("COIN " + v, x.set(6, 1, v), false);
        t.due("as it was", x.of(1, 5), 0);
        for (int v : new int[] {999, 0}) {
            t.due("COIN " + v, x.set(6, 1, v), true);
            t.due("COIN", x.of(1, 5), v);
        }
        x.set(6, 1, 7);
        t.due("of the other", x.of(0, 5), 0);
    }

    @Sentence(of = "Terms 1", says = "WHERE: HOME (at first), IN THE FIELD at a CELL, or CAPTIVE.")
    static void threePlaces(Due t) {
        OldestDown x = Due.war(0, 70, 9, 1, 70, 9);
        t.where(x, 0, 0, -1, 50);
        x.set(5, 0, 49);
        x.days(1);
        t.where(x, 0, 2, -1, 49);
        t.where(x, 1, 1, 9, 40);
    }

    @Sentence(of = "Terms 1", says = "WANT 0 .. 9 of each COUNTRY (2 at first): how many it would have IN THE FIELD.")
    static void want(Due t) {
        OldestDown x = Due.war(0, 70, 1, 0, 70, 1, 0, 70, 1, 1, 70, 1);
        t.due("at first", x.country(0, 3), 2);
        t.due("at first", x.country(1, 3), 2);
        for (int v : new int[] {-1, 10, LEAST, MOST}) t.due("WANT " + v, x.set(3, 0, v), false);
        t.due("as it was", x.country(0, 3), 2);
        for (int v : new int[] {9, 0}) {
            t.due("WANT " + v, x.set(3, 1, v), true);
            t.due("WANT", x.country(1, 3), v);
        }
        t.due("of the other", x.country(0, 3), 2);
        x.days(4);
        t.due("IN THE FIELD", x.country(0, 0), 2);
        t.due("IN THE FIELD", x.country(1, 0), 0);
    }

    @Sentence(of = "Terms 1", says = "KEEP 0 .. 99 (1 at first).")
    static void keep(Due t) {
        OldestDown x = new OldestDown();
        t.due("at first", x.look(3), 1);
        for (int v : new int[] {-1, 100, LEAST, MOST}) t.due("KEEP " + v, x.set(0, 0, v), false);
        t.due("as it was", x.look(3), 1);
        for (int v : new int[] {0, 99}) {
            t.due("KEEP " + v, x.set(0, 0, v), true);
            t.due("KEEP", x.look(3), v);
        }
    }

    @Sentence(of = "Terms 1", says = "WAR: 1 (at first) or 0.")
    static void war(Due t) {
        OldestDown x = new OldestDown();
        t.due("at first", x.look(2), 1);
        x.days(1);
        t.due("nobody KNOWS what to KEEP", x.look(2), 0);
        x.days(1);
        t.due("it stays so", x.look(2), 0);
    }

    @Sentence(of = "Terms 1", says = "RAIN 0 .. 9 (0)")
    static void rain(Due t) {
        OldestDown x = new OldestDown();
        t.due("at first", x.look(4), 0);
        for (int v : new int[] {-1, 10, LEAST, MOST}) t.due("RAIN " + v, x.set(1, 0, v), false);
        t.due("as it was", x.look(4), 0);
        for (int v : new int[] {9, 0}) {
            t.due("RAIN " + v, x.set(1, 0, v), true);
            t.due("RAIN", x.look(4), v);
        }
    }

    @Sentence(of = "Terms 1", says = "DAY 0 .. 9999 (0 at first).")
    static void lastDay(Due t) {
        OldestDown x = new OldestDown();
        t.due("at first", x.look(1), 0);
        for (int i = 0; i < 166; i++) x.days(60);
        t.due("up to it", x.days(39), 0);
        t.due("the last", x.look(1), 9999);
        t.due("beyond it", x.days(1), -1);
        t.due("the last", x.look(1), 9999);
    }

    @Sentence(of = "Terms 1", says = "TEA 0 .. 99 (3 at first): days a CAPTIVE is kept.")
    static void tea(Due t) {
        OldestDown x = Due.war(0, 70, 9, 1, 70, 9);
        t.due("at first", x.look(5), 3);
        for (int v : new int[] {-1, 100, LEAST, MOST}) t.due("TEA " + v, x.set(2, 0, v), false);
        t.due("as it was", x.look(5), 3);
        x.set(5, 0, 40);
        Due.tell(x, 0, "step 9 when day < 1; step 0;");
        x.days(3);
        t.due("kept yet", x.of(0, 6), 2);
        x.days(1);
        t.due("kept no longer", x.of(0, 6), 0);
        for (int v : new int[] {0, 99}) {
            t.due("TEA " + v, x.set(2, 0, v), true);
            t.due("TEA", x.look(5), v);
        }
    }

    @Sentence(of = "Terms 1", says = "TEA 0 .. 99")
    static void longestTea(Due t) {
        OldestDown x = Due.war(0, 70, 9, 1, 70, 9);
        x.set(5, 0, 40);
        x.set(2, 0, 99);
        Due.tell(x, 0, "step 9 when day < 1; step 0;");
        x.days(60);
        x.days(39);
        t.due("DAYS that went by", x.look(1), 99);
        t.due("kept yet", x.of(0, 6), 2);
        x.days(1);
        t.due("kept no longer", x.of(0, 6), 0);
        t.line(x, 3, 99, 5, 0, 0);
    }
}
