/** Terms 3: a DAY without WAR, and (a), (b) and (h) of one with it. */
final class DaySentences {
    // ---- without WAR

    @Sentence(of = "Terms 3", says = "A DAY. Is WAR 0: nothing but (e), (f), (h).")
    static void peace(Due t) {
        OldestDown x = Due.men(0, 80, 3, 1, 80, 3);
        x.days(1);
        t.due("WAR", x.look(2), 0);
        int lines = x.look(7);
        x.days(6);
        for (int m = 0; m < 2; m++) t.where(x, m, 0, -1, 50);
        t.due("nobody called, no second peace", x.look(7), lines);
        Due.tell(x, 1, "0 tells 1;");
        Due.tell(x, 0, "fade 1000 when facts > 1; fade 0;");
        x.teach(0, 6);
        x.teach(1, 2);
        t.due("DAYS of WAR", x.days(1), 0);
        t.due("(e): told on, (f): forgotten", x.of(1, 4), 64);
        t.line(x, lines, 7, 3, 1, 2);
        t.due("(h)", x.look(1), 8);
        x.set(0, 0, 0);
        t.due("KEEP 0 brings no WAR", x.days(2), 0);
        t.due("lines", x.look(7), lines + 1);
    }

    // ---- (a)

    @Sentence(of = "Terms 3", says = "(a) COUNTRY by COUNTRY: has it fewer than WANT IN THE FIELD, it calls one:")
    static void callsOneADay(Due t) {
        OldestDown x = Due.war(0, 80, 1, 0, 80, 1, 0, 80, 1, 0, 80, 1);
        x.set(3, 0, 3);
        for (int day = 0; day < 6; day++) {
            x.days(1);
            t.due("IN THE FIELD behind DAY " + day, x.country(0, 0), Math.min(3, day + 1));
            t.due("lines", x.look(7), Math.min(3, day + 1));
        }
    }

    @Sentence(of = "Terms 3", says = "(a) COUNTRY by COUNTRY: has it fewer than WANT IN THE FIELD, it calls one:")
    static void countryByCountry(Due t) {
        OldestDown x = Due.war(1, 99, 1, 0, 70, 1);
        x.days(1);
        t.line(x, 0, 0, 0, 1, 0);
        t.line(x, 1, 0, 0, 0, 15);
        t.due("lines", x.look(7), 2);
    }

    @Sentence(of = "Terms 3", says = "has it fewer than WANT IN THE FIELD, it calls one:")
    static void wantsNobody(Due t) {
        OldestDown x = Due.war(0, 80, 1, 0, 80, 1, 1, 80, 1);
        x.set(3, 0, 0);
        x.days(2);
        t.due("WANT 0", x.country(0, 0), 0);
        t.due("of the other, as it has no more", x.country(1, 0), 1);
    }

    @Sentence(of = "Terms 3", says = "has it fewer than WANT IN THE FIELD, it calls one:")
    static void hasMoreThanItWants(Due t) {
        OldestDown x = Due.war(0, 80, 1, 0, 80, 1, 0, 80, 1);
        x.days(2);
        x.set(3, 0, 1);
        x.days(1);
        t.due("nobody goes HOME, nobody is called", x.country(0, 0), 2);
        t.due("lines", x.look(7), 2);
        x.set(3, 0, 3);
        x.days(1);
        t.due("one more", x.country(0, 0), 3);
    }

    @Sentence(of = "Terms 3", says = "of those at HOME whose call is above 0")
    static void callMustBeAboveZero(Due t) {
        OldestDown x = Due.war(0, 59, 1, 0, 58, 1);
        x.days(2);
        t.due("call 0", x.country(0, 0), 0);
        Due.tell(x, 0, "call 1 when age = 58; call 0;");
        x.days(2);
        t.line(x, 0, 2, 0, 1, 0);
        t.due("call 1 alone", x.country(0, 0), 1);
        Due.tell(x, 0, "call 0 - 1;");
        x.days(1);
        t.due("call below 0", x.country(0, 0), 1);
    }

    @Sentence(of = "Terms 3", says = "of those at HOME whose call is above 0")
    static void captivesAreNotCalled(Due t) {
        OldestDown x = Due.war(0, 70, 9, 1, 70, 9);
        x.set(5, 0, 40);
        Due.tell(x, 0, "step 9 when day < 1; step 0;");
        x.days(3);
        t.due("CAPTIVE", x.of(0, 6), 2);
        t.due("calls of DAY 0 and who was beaten", x.look(7), 3);
        x.days(2);
        t.due("called when he is back", x.of(0, 6), 1);
        t.line(x, 4, 4, 0, 0, 0);
    }

    @Sentence(of = "Terms 3", says = "the one with the greatest call,")
    static void theGreatestCall(Due t) {
        OldestDown x = Due.war(0, 90, 1, 0, 60, 1, 0, 80, 1);
        Due.tell(x, 0, "call 100 - age;");
        x.set(3, 0, 3);
        x.days(3);
        int[] dues = {1, 2, 0};
        for (int i = 0; i < 3; i++) t.line(x, i, i, 0, dues[i], 0);
    }

    @Sentence(of = "Terms 3", says = "of several the oldest, then the least:")
    static void theOldestThenTheLeast(Due t) {
        OldestDown x = Due.war(0, 60, 1, 0, 90, 1, 0, 90, 1, 0, 91, 1);
        Due.tell(x, 0, "call 9 when age = 91; call 10; step 0;");
        x.set(3, 0, 9);
        x.days(4);
        int[] dues = {1, 2, 0, 3};
        for (int i = 0; i < 4; i++) t.line(x, i, i, 0, dues[i], 0);
    }

    @Sentence(of = "Terms 3", says = "he is IN THE FIELD at CELL 0 or 15.")
    static void whereTheCalledOneIs(Due t) {
        OldestDown x = Due.war(0, 70, 4, 1, 70, 4);
        Due.tell(x, 0, "step 0;");
        x.days(1);
        t.where(x, 0, 1, 0, 50);
        t.where(x, 1, 1, 15, 50);
    }

    // ---- (b)

    @Sentence(of = "Terms 3", says = "(b) MAN by MAN IN THE FIELD whose COUNTRY is not told to rest:")
    static void manByMan(Due t) {
        // The lesser one goes first: he comes as far as he can, the other one comes to him.
        OldestDown x = Due.war(0, 70, 9, 1, 70, 9);
        x.days(1);
        t.due("9 CELLS", x.of(0, 7), 9);
        t.due("6 CELLS", x.of(1, 7), 9);
        OldestDown y = Due.war(1, 70, 9, 0, 70, 9);
        y.days(1);
        t.due("9 CELLS", y.of(0, 7), 6);
        t.due("6 CELLS", y.of(1, 7), 6);
    }

    @Sentence(of = "Terms 3", says = "(b) MAN by MAN IN THE FIELD whose COUNTRY is not told to rest:")
    static void thoseAtHomeNeitherNapNorRest(Due t) {
        OldestDown x = Due.war(0, 70, 9, 1, 70, 9, 0, 20, 1, 1, 20, 1);
        x.set(5, 0, 40);
        Due.tell(x, 0, "step 9 when day < 1; nap 20;");
        Due.tell(x, 3, "on 1 rest 0; on 1 rest 1;");
        x.days(1);
        t.where(x, 0, 1, 0, 60);
        t.where(x, 2, 0, -1, 50);
        x.days(1);
        t.where(x, 2, 0, -1, 50);
        t.where(x, 3, 0, -1, 50);
        t.where(x, 0, 1, 0, 70);
    }

    @Sentence(of = "Terms 3", says = "is his nap above 0, BREATH is nap more (99 at most);")
    static void naps(Due t) {
        OldestDown x = Due.war(0, 70, 4);
        Due.tell(x, 0, "nap 1;");
        x.days(1);
        t.where(x, 0, 1, 0, 51);
        Due.tell(x, 0, "nap 47;");
        x.days(1);
        t.where(x, 0, 1, 0, 98);
        Due.tell(x, 0, "nap 1;");
        x.days(1);
        t.where(x, 0, 1, 0, 99);
        x.days(1);
        t.where(x, 0, 1, 0, 99);
        x.set(5, 0, 98);
        Due.tell(x, 0, "nap 99;");
        x.days(1);
        t.where(x, 0, 1, 0, 99);
        Due.tell(x, 0, "nap 0;");
        x.days(1);
        t.where(x, 0, 1, 4, 99);
    }

    @Sentence(of = "Terms 3", says = "else he goes on CELL by CELL, as many as step tells;")
    static void goesAsManyAsStepTells(Due t) {
        OldestDown x = Due.war(0, 70, 4, 1, 70, 4);
        Due.tell(x, 0, "step day;");
        int[] up = {0, 1, 3, 6};
        for (int day = 0; day < 4; day++) {
            x.days(1);
            t.where(x, 0, 1, up[day], 50);
            t.where(x, 1, 1, 15 - up[day], 50);
        }
    }

    @Sentence(of = "Terms 3", says = "a CELL that is a HILL takes two (one left: he stays ahead of it);")
    static void hillsTakeTwo(Due t) {
        OldestDown x = Due.war(0, 70, 4);
        x.set(4, 2, 1);
        x.set(4, 4, 1);
        x.days(1);
        // 1, then 2 for two, then 3; 4 for two, then 5 and 6
        t.where(x, 0, 1, 3, 50);
        x.days(1);
        t.where(x, 0, 1, 6, 50);
        OldestDown y = Due.war(1, 70, 3);
        y.set(4, 12, 1);
        y.set(4, 11, 1);
        y.days(1);
        t.where(y, 0, 1, 13, 50);
        y.days(1);
        t.where(y, 0, 1, 12, 50);
        y.days(1);
        t.where(y, 0, 1, 10, 50);
    }

    @Sentence(of = "Terms 3", says = "a CELL that is a HILL takes two (one left: he stays ahead of it);")
    static void oneLeftAheadOfAHill(Due t) {
        OldestDown x = Due.war(0, 70, 1, 1, 70, 2);
        x.set(4, 1, 1);
        x.set(4, 13, 1);
        x.set(4, 14, 1);
        x.days(1);
        t.where(x, 0, 1, 0, 50);
        t.where(x, 1, 1, 14, 50);
        x.days(1);
        t.where(x, 0, 1, 0, 50);
        t.where(x, 1, 1, 13, 50);
        Due.tell(x, 0, "step 2;");
        x.days(1);
        t.where(x, 0, 1, 1, 50);
    }

    @Sentence(of = "Terms 3", says = "a CELL that is a HILL takes two")
    static void hillsAtTheEnds(Due t) {
        OldestDown x = Due.war(0, 70, 2);
        x.set(4, 0, 1);
        x.set(4, 15, 1);
        x.days(1);
        t.where(x, 0, 1, 2, 50);
        Due.tell(x, 0, "step 9 when cell < 10; step 3 when cell = 11; step 1;");
        x.days(1);
        t.where(x, 0, 1, 11, 50);
        x.days(2);
        t.where(x, 0, 1, 14, 50);
        t.due("one left ahead of CELL 15", x.look(2), 1);
        Due.tell(x, 0, "step 2;");
        x.days(1);
        t.due("come to CELL 15", x.look(2), 0);
    }

    @Sentence(of = "Terms 3", says = "he does not go on from a CELL in which one of the other COUNTRY is,")
    static void doesNotPassTheOther(Due t) {
        OldestDown x = Due.war(0, 70, 9, 1, 70, 9);
        x.days(1);
        t.due("he comes to him", x.of(1, 7), 9);
        for (int day = 1; day < 5; day++) {
            x.days(1);
            t.due("both stay", x.of(0, 7), 9);
            t.due("both stay", x.of(1, 7), 9);
        }
    }

    @Sentence(of = "Terms 3", says = "he does not go on from a CELL in which one of the other COUNTRY is,")
    static void passesHisOwn(Due t) {
        OldestDown x = Due.war(0, 90, 1, 0, 80, 9, 1, 90, 9, 1, 80, 9);
        Due.tell(x, 0, "step 0 when age = 90; step 2;");
        x.set(3, 1, 0);
        x.days(2);
        t.due("past his own", x.of(1, 7), 2);
        t.due("his own", x.of(0, 7), 0);
    }

    @Sentence(of = "Terms 3", says = "nor beyond the last one.")
    static void notBeyondTheLastOne(Due t) {
        // 1 of COUNTRY 1 stays at CELL 15, so that WAR goes on.
        OldestDown x = Due.war(0, 70, 9, 1, 70, 1);
        Due.tell(x, 0, "step 9 when country = 0; step 0;");
        x.days(2);
        t.where(x, 0, 1, 15, 25);
        x.days(1);
        t.where(x, 0, 1, 15, 12);
        OldestDown y = Due.war(1, 70, 9);
        t.due("DAYS of WAR", y.days(3), 2);
        OldestDown z = Due.war(0, 70, 9, 1, 70, 9);
        Due.tell(z, 0, "step 9 when country = 1; step 0;");
        z.days(2);
        t.where(z, 1, 1, 0, 25);
    }

    @Sentence(of = "Terms 3", says = "Who rests, BREATH is 10 more (99 at most).")
    static void rests(Due t) {
        OldestDown x = Due.war(0, 70, 4, 1, 70, 4, 0, 20, 1);
        Due.tell(x, 0, "nap 50;");
        Due.tell(x, 3, "on 0 rest 0; on 1 rest 0; on 2 rest 0; on 3 rest 0;");
        x.days(1);
        t.where(x, 0, 1, 0, 60);
        t.where(x, 1, 1, 15, 99);
        int[] breaths = {89, 90, 99};
        int[] dues = {99, 99, 99};
        for (int i = 0; i < 3; i++) {
            x.set(5, 0, breaths[i]);
            x.days(1);
            t.where(x, 0, 1, 0, dues[i]);
        }
        x.set(5, 0, 20);
        x.days(1);
        t.where(x, 0, 1, 0, 70);
    }

    @Sentence(of = "Terms 3", says = "Who rests, BREATH is 10 more (99 at most).")
    static void restsOfTheOther(Due t) {
        OldestDown x = Due.war(0, 70, 4, 1, 70, 4);
        Due.tell(x, 3, "on 0 rest 1; on 1 rest 1; on 1 rest 0;");
        x.days(1);
        t.where(x, 0, 1, 4, 50);
        t.where(x, 1, 1, 15, 60);
        x.days(1);
        t.where(x, 0, 1, 4, 60);
        t.where(x, 1, 1, 15, 70);
        x.days(1);
        t.where(x, 0, 1, 8, 60);
        t.where(x, 1, 1, 11, 70);
    }

    // ---- (h)

    @Sentence(of = "Terms 3", says = "(h) DAY is one more.")
    static void dayIsOneMore(Due t) {
        OldestDown x = Due.war();
        for (int day = 0; day < 5; day++) {
            t.due("DAY", x.look(1), day);
            x.days(1);
        }
        x.days(60);
        t.due("DAY", x.look(1), 65);
        OldestDown y = new OldestDown();
        y.days(3);
        t.due("DAY in peace", y.look(1), 3);
    }

    @Sentence(of = "Terms 3", says = "(All that THE LAW tells is asked when it is the MAN's turn.)")
    static void askedAtHisTurn(Due t) {
        OldestDown x = Due.war(0, 70, 4, 1, 70, 4);
        Due.tell(x, 0, "nap 30 when breath < 80 and country = 0; nap 30 * hill; step 1 + breath / 99;");
        x.set(4, 13, 1);
        x.days(2);
        t.where(x, 0, 1, 1, 80);
        t.where(x, 1, 1, 14, 50);
        x.set(5, 1, 99);
        x.days(1);
        t.where(x, 1, 1, 13, 99);
        x.set(5, 1, 60);
        x.days(1);
        t.where(x, 1, 1, 13, 90);
    }

    @Sentence(of = "Terms 3", says = "(All that THE LAW tells is asked when it is the MAN's turn.)")
    static void calledAtCellZeroOfTheDay(Due t) {
        // Called in this DAY, he is asked for his step at CELL 15, not at HOME.
        OldestDown x = Due.war(1, 70, 1);
        Due.tell(x, 0, "step 3 when cell = 15; step 2 when cell = 12; step 0;");
        x.days(1);
        t.where(x, 0, 1, 12, 50);
        // Asked once a DAY, not at each CELL.
        x.days(1);
        t.where(x, 0, 1, 10, 50);
    }

    @Sentence(of = "Terms 3", says = "(All that THE LAW tells is asked when it is the MAN's turn.)")
    static void fadeAsHeStandsThen(Due t) {
        // Told a second FACT by (e) and out of BREATH by (c), he is asked for his fade.
        OldestDown x = Due.war(0, 20, 1, 0, 20, 1);
        x.teach(0, 4);
        x.teach(1, 6);
        Due.tell(x, 1, "0 tells 1;");
        Due.tell(x, 0, "fade 1000 when facts = 2; fade 0;");
        x.days(1);
        t.due("he KNEW two", x.of(1, 4), 64);
        OldestDown y = Due.war(0, 70, 9, 1, 70, 9);
        y.set(5, 0, 40);
        y.teach(0, 1);
        y.teach(1, 1);
        Due.tell(y, 0, "fade 1000 when breath = 40 and cell = country * 9; fade 0;");
        y.days(1);
        t.due("the CAPTIVE, no CELL", y.of(0, 4), 0);
        t.due("the other one, 10 less", y.of(1, 4), 0);
    }
}
