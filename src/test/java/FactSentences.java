/** Terms 3: (e), (f) and (g), what is told on, what is forgotten, and what comes of it. */
final class FactSentences {
    // ---- (e)

    @Sentence(of = "Terms 3", says = "(e) If DAY is a multiple of 7:")
    static void tellsOnEverySeventhDay(Due t) {
        OldestDown x = Due.war(0, 20, 1, 0, 20, 1);
        Due.tell(x, 0, "fade 0;");
        Due.tell(x, 1, "0 tells 1;");
        x.teach(0, 0);
        x.days(1);
        t.due("DAY 0", x.of(1, 4), 1);
        x.teach(0, 1);
        for (int day = 1; day < 14; day++) {
            x.days(1);
            t.due("DAY " + day, x.of(1, 4), day < 7 ? 1 : 3);
        }
        x.teach(0, 2);
        x.days(1);
        t.due("DAY 14", x.of(1, 4), 7);
    }

    @Sentence(of = "Terms 3", says = "MAN by MAN at HOME who tells others: each of them at HOME KNOWS all that he KNOWS, too")
    static void tellsAllThatHeKnows(Due t) {
        OldestDown x = Due.war(0, 20, 1, 1, 20, 1, 0, 20, 1, 0, 20, 1);
        Due.tell(x, 0, "fade 0;");
        Due.tell(x, 1, "0 tells 1 and 2;");
        x.teach(0, 1);
        x.teach(0, 6);
        x.teach(1, 7);
        x.teach(1, 1);
        x.days(1);
        t.due("he KNOWS no more", x.of(0, 4), 66);
        t.due("of the other COUNTRY", x.of(1, 4), 194);
        t.due("who KNEW nothing", x.of(2, 4), 66);
        t.due("who isn't told", x.of(3, 4), 0);
    }

    @Sentence(of = "Terms 3", says = "MAN by MAN at HOME who tells others: each of them at HOME KNOWS all that he KNOWS, too")
    static void tellsAtHomeAlone(Due t) {
        OldestDown x = Due.war(0, 80, 1, 0, 20, 1, 0, 20, 1);
        Due.tell(x, 0, "fade 0; step 0;");
        Due.tell(x, 1, "0 tells 1; 1 tells 0 and 2;");
        x.teach(0, 1);
        x.teach(1, 2);
        x.days(1);
        t.due("who was told IN THE FIELD", x.of(0, 4), 2);
        t.due("who was told by one IN THE FIELD", x.of(1, 4), 4);
        t.due("both at HOME", x.of(2, 4), 4);
    }

    @Sentence(of = "Terms 3", says = "MAN by MAN at HOME who tells others: each of them at HOME KNOWS all that he KNOWS, too")
    static void captivesNeitherTellNorAreTold(Due t) {
        OldestDown x = Due.war(0, 70, 9, 1, 70, 9, 0, 20, 1);
        x.set(5, 0, 40);
        Due.tell(x, 0, "fade 0; step 9 when day = 0; step 0;");
        Due.tell(x, 1, "0 tells 2; 2 tells 0;");
        x.teach(0, 1);
        x.teach(2, 2);
        x.days(1);
        t.due("CAPTIVE", x.of(0, 6), 2);
        t.due("was told", x.of(0, 4), 2);
        t.due("was told by him", x.of(2, 4), 4);
    }

    @Sentence(of = "Terms 3", says = "MAN by MAN at HOME who tells others: each of them at HOME KNOWS all that he KNOWS, too")
    static void whoIsBeatenHomeIsToldThatDay(Due t) {
        OldestDown x = FightSentences.threeAtTheEndOf(0, 31, 20, 40, 92);
        Due.tell(x, 0, "fade 0; step 0 when day < 7; step 0 when country = 0; step 9;");
        Due.tell(x, 1, "0 tells 2; 3 tells 0;");
        x.days(3);
        x.teach(0, 5);
        x.teach(3, 6);
        t.due("DAY", x.look(1), 7);
        for (int m = 0; m < 4; m++) x.set(5, m, m == 3 ? 99 : 20);
        x.days(1);
        t.due("beaten HOME, both", x.of(2, 4), 32);
        t.due("by one IN THE FIELD till peace", x.of(0, 4), 32);
    }

    @Sentence(of = "Terms 3", says = "(as all stand when it is his turn).")
    static void tellsWhatHeWasToldAhead(Due t) {
        OldestDown x = Due.war(0, 20, 1, 0, 20, 1, 0, 20, 1, 1, 20, 1);
        Due.tell(x, 0, "fade 0;");
        Due.tell(x, 1, "0 tells 1; 1 tells 2; 3 tells 0;");
        x.teach(0, 1);
        x.teach(1, 7);
        x.teach(3, 4);
        x.days(7);
        int[] first = {18, 130, 130, 16};
        for (int m = 0; m < 4; m++) t.due("KNOWS " + m + " behind DAY 6", x.of(m, 4), first[m]);
        x.days(1);
        int[] then = {18, 146, 146, 16};
        for (int m = 0; m < 4; m++) t.due("KNOWS " + m + " behind DAY 7", x.of(m, 4), then[m]);
    }

    // ---- (f)

    @Sentence(of = "Terms 3", says = "(f) MAN by MAN who KNOWS some: a DRAW of 1000:")
    static void drawsForWhoKnowsSome(Due t) {
        int s = 77;
        OldestDown x = Due.war(0, 20, 1, 0, 20, 1, 0, 20, 1);
        x.state(s);
        x.days(5);
        t.due("nobody KNOWS some", x.look(8), s);
        Due.tell(x, 0, "fade 0;");
        x.teach(0, 3);
        x.teach(0, 4);
        x.teach(2, 3);
        x.days(1);
        for (int i = 0; i < 2; i++) s = s * 1664525 + 1013904223;
        t.due("two KNOW some, fade is 0", x.look(8), s);
    }

    @Sentence(of = "Terms 3", says = "(f) MAN by MAN who KNOWS some: a DRAW of 1000:")
    static void drawsForAllWherever(Due t) {
        int s = 5;
        OldestDown x = Due.war(0, 70, 9, 1, 70, 9, 0, 20, 1);
        x.set(5, 0, 40);
        for (int m = 0; m < 3; m++) x.teach(m, m);
        Due.tell(x, 0, "fade 1000;");
        x.state(s);
        x.days(1);
        for (int i = 0; i < 3; i++) s = s * 1664525 + 1013904223;
        t.due("a CAPTIVE, one IN THE FIELD, one at HOME", x.look(8), s);
        for (int m = 0; m < 3; m++) t.due("KNOWS " + m, x.of(m, 4), 0);
        x.days(1);
        t.due("nobody KNOWS some", x.look(8), s);
    }

    @Sentence(of = "Terms 3", says = "(f) MAN by MAN who KNOWS some: a DRAW of 1000:")
    static void drawsManByMan(Due t) {
        // From STATE 0 the DRAWS of 1000 are 563, 577, 494, 947.
        OldestDown x = Due.war(1, 20, 1, 0, 20, 1, 0, 20, 1, 1, 20, 1, 0, 20, 1);
        for (int m : new int[] {0, 1, 3, 4}) x.teach(m, m);
        Due.tell(x, 0, "fade 570;");
        x.days(1);
        int[] dues = {0, 2, 0, 0, 16};
        for (int m = 0; m < 5; m++) t.due("KNOWS " + m, x.of(m, 4), dues[m]);
        t.line(x, 0, 0, 3, 0, 0);
        t.line(x, 1, 0, 3, 3, 3);
        t.due("lines", x.look(7), 2);
    }

    @Sentence(of = "Terms 3", says = "below fade he forgets the least FACT that he KNOWS.")
    static void belowFade(Due t) {
        // STATE 0 becomes 1013904223, its highest 24 bits 3960563, modulo 1000: 563
        int[] fades = {0, 562, 563, 564, 1000};
        for (int fade : fades) {
            OldestDown x = Due.war(0, 20, 1);
            x.teach(0, 5);
            x.teach(0, 3);
            Due.tell(x, 0, "fade " + fade + ";");
            x.days(1);
            t.due("KNOWS at fade " + fade, x.of(0, 4), fade > 563 ? 32 : 40);
            t.due("lines at fade " + fade, x.look(7), fade > 563 ? 1 : 0);
        }
    }

    @Sentence(of = "Terms 3", says = "below fade he forgets the least FACT that he KNOWS.")
    static void forgetsOneADay(Due t) {
        OldestDown x = Due.war(0, 20, 1, 1, 20, 1);
        Due.tell(x, 0, "fade 1000;");
        x.teach(1, 7);
        x.teach(1, 2);
        x.teach(1, 0);
        x.teach(0, 4);
        x.days(4);
        t.line(x, 0, 0, 3, 0, 4);
        t.line(x, 1, 0, 3, 1, 0);
        t.line(x, 2, 1, 3, 1, 2);
        t.line(x, 3, 2, 3, 1, 7);
        t.due("lines", x.look(7), 4);
    }

    // ---- (g)

    @Sentence(of = "Terms 3", says = "(g) Is in some COUNTRY the weight of all FACTS together that some of its MEN KNOW below KEEP, WAR is 0.")
    static void weighsBelowKeep(Due t) {
        OldestDown x = Due.men(0, 20, 1, 1, 20, 1);
        Due.tell(x, 0, "fade 0;");
        Due.tell(x, 2, "fact 2 weighs 40; fact 6 weighs 39;");
        x.teach(0, 2);
        x.teach(1, 6);
        x.set(0, 0, 39);
        x.days(1);
        t.due("39 and 40 at KEEP 39", x.look(2), 1);
        x.set(0, 0, 40);
        x.days(1);
        t.due("39 and 40 at KEEP 40", x.look(2), 0);
        OldestDown y = Due.men(0, 20, 1, 1, 20, 1);
        y.teach(1, 6);
        y.days(1);
        t.due("0 and 1 at KEEP 1", y.look(2), 0);
    }

    @Sentence(of = "Terms 3", says = "the weight of all FACTS together that some of its MEN KNOW below KEEP, WAR is 0.")
    static void factsOfAllTogether(Due t) {
        OldestDown x = Due.men(0, 20, 1, 1, 20, 1, 1, 20, 1);
        Due.tell(x, 0, "fade 0;");
        x.teach(0, 1);
        x.teach(0, 2);
        x.teach(1, 5);
        x.teach(2, 6);
        x.set(0, 0, 2);
        x.days(1);
        t.due("two FACTS of two MEN", x.look(2), 1);
        OldestDown y = Due.men(0, 20, 1, 1, 20, 1, 1, 20, 1);
        Due.tell(y, 0, "fade 0;");
        y.teach(0, 1);
        y.teach(0, 2);
        y.teach(1, 5);
        y.teach(2, 5);
        y.set(0, 0, 2);
        y.days(1);
        t.due("one FACT of two MEN weighs once", y.look(2), 0);
    }

    @Sentence(of = "Terms 3", says = "(g) Is in some COUNTRY the weight of all FACTS together that some of its MEN KNOW below KEEP, WAR is 0.")
    static void keepOfNothing(Due t) {
        OldestDown x = new OldestDown();
        x.set(0, 0, 0);
        x.days(1);
        t.due("without MEN at KEEP 0", x.look(2), 1);
        x.set(0, 0, 1);
        x.days(1);
        t.due("without MEN at KEEP 1", x.look(2), 0);
        OldestDown y = Due.men(0, 20, 1);
        y.teach(0, 0);
        Due.tell(y, 0, "fade 0;");
        y.days(1);
        t.due("one COUNTRY without MEN", y.look(2), 0);
        OldestDown z = Due.men(0, 20, 1, 1, 20, 1);
        z.teach(0, 0);
        z.teach(1, 1);
        Due.tell(z, 0, "fade 0;");
        Due.tell(z, 2, "fact 1 weighs 0;");
        z.days(1);
        t.due("a FACT that weighs 0", z.look(2), 0);
    }

    @Sentence(of = "Terms 3", says = "(g) Is in some COUNTRY the weight of all FACTS together that some of its MEN KNOW below KEEP, WAR is 0.")
    static void weighedBehindTellingAndForgetting(Due t) {
        OldestDown x = Due.men(0, 20, 1, 1, 20, 1);
        x.teach(0, 0);
        Due.tell(x, 0, "fade 0;");
        Due.tell(x, 1, "0 tells 1;");
        x.days(1);
        t.due("he is told in this DAY", x.look(2), 1);
        Due.tell(x, 0, "fade 1000 when country = 1; fade 0;");
        x.days(1);
        t.due("he forgets in this DAY", x.look(2), 0);
    }

    @Sentence(of = "Terms 3", says = "(g) Is in some COUNTRY the weight of all FACTS together that some of its MEN KNOW below KEEP, WAR is 0.")
    static void captivesKnowForTheirCountry(Due t) {
        OldestDown x = Due.men(0, 70, 9, 1, 70, 9);
        x.set(5, 0, 40);
        x.teach(0, 1);
        x.teach(1, 2);
        Due.tell(x, 0, "fade 0; step 9 when day = 0; step 0;");
        x.days(1);
        t.due("CAPTIVE", x.of(0, 6), 2);
        t.due("WAR", x.look(2), 1);
    }

    @Sentence(of = "Terms 3", says = "MAN by MAN a CAPTIVE comes HOME if DAY is TEA at least behind that on which he became one.")
    static void comesHomeBehindTea(Due t) {
        for (int tea = 0; tea < 5; tea++) {
            OldestDown x = Due.war(0, 70, 9, 1, 70, 9);
            Due.tell(x, 0, "step 9 when day = 0; step 0;");
            x.set(5, 0, 40);
            x.set(2, 0, tea);
            for (int day = 0; day <= tea; day++) {
                t.due("at HOME ahead of DAY " + day + " at TEA " + tea, x.of(0, 6), day == 0 ? 0 : 2);
                x.days(1);
            }
            t.where(x, 0, 0, -1, 40);
            t.line(x, 3, tea, 5, 0, 0);
            x.days(1);
            t.line(x, 4, tea + 1, 0, 0, 0);
        }
    }

    @Sentence(of = "Terms 3", says = "MAN by MAN a CAPTIVE comes HOME if DAY is TEA at least behind that on which he became one.")
    static void teaAsItIsNow(Due t) {
        OldestDown x = Due.war(0, 70, 9, 1, 70, 9);
        Due.tell(x, 0, "step 9 when day = 0; step 0;");
        x.set(5, 0, 40);
        x.set(2, 0, 50);
        x.days(20);
        t.due("kept", x.of(0, 6), 2);
        x.set(2, 0, 4);
        x.days(1);
        t.due("kept long enough", x.of(0, 6), 0);
        t.line(x, 3, 20, 5, 0, 0);
    }

    @Sentence(of = "Terms 3", says = "MAN by MAN a CAPTIVE comes HOME if DAY is TEA at least behind that on which he became one.")
    static void captivesComeHomeManByMan(Due t) {
        // 1, the older one, is called and CAPTIVE a DAY ahead of 0.
        OldestDown x = Due.war(0, 65, 9, 0, 70, 9, 1, 90, 9);
        Due.tell(x, 0, "step 9 when country = 0; step 9 when day = 0; step 0;");
        x.set(5, 2, 99);
        x.set(2, 0, 50);
        x.days(2);
        t.line(x, 2, 0, 1, 1, 9);
        t.line(x, 4, 1, 1, 0, 9);
        x.set(2, 0, 2);
        x.days(1);
        t.line(x, 5, 2, 5, 1, 0);
        t.due("0 is kept yet", x.of(0, 6), 2);
        x.undo();
        x.set(2, 0, 1);
        x.days(1);
        t.line(x, 5, 2, 5, 0, 0);
        t.line(x, 6, 2, 5, 1, 0);
    }

    @Sentence(of = "Terms 3", says = "Has WAR become 0 in this DAY, all come HOME (one line of THE BOOK: 4).")
    static void allComeHome(Due t) {
        OldestDown x = Due.war(0, 70, 9, 1, 70, 9, 0, 65, 1);
        x.set(5, 0, 40);
        x.set(5, 1, 99);
        Due.tell(x, 0, "step 0 when age = 65;");
        x.days(1);
        t.where(x, 0, 2, -1, 40);
        x.set(5, 1, 99);
        // 1 beats 2 at CELL 0: two CAPTIVES, neither kept long enough.
        x.days(1);
        t.due("WAR", x.look(2), 0);
        t.where(x, 0, 0, -1, 40);
        t.where(x, 1, 0, -1, 89);
        t.where(x, 2, 0, -1, 50);
        t.line(x, 4, 1, 1, 2, 0);
        t.line(x, 5, 1, 4, -1, 0);
        t.due("one line for all", x.look(7), 6);
        x.days(1);
        t.due("none later", x.look(7), 6);
    }

    @Sentence(of = "Terms 3", says = "Has WAR become 0 in this DAY, all come HOME (one line of THE BOOK: 4).")
    static void peaceTwice(Due t) {
        // By who comes through and by what is forgotten, in one DAY.
        OldestDown x = Due.men(0, 70, 9, 1, 20, 9);
        x.teach(0, 0);
        x.teach(1, 0);
        Due.tell(x, 0, "fade 1000 when day = 1; fade 0;");
        x.days(2);
        t.due("WAR", x.look(2), 0);
        t.line(x, 1, 1, 3, 0, 0);
        t.line(x, 2, 1, 3, 1, 0);
        t.line(x, 3, 1, 4, -1, 0);
        t.due("lines", x.look(7), 4);
    }
}
