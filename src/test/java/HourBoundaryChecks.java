/**
 * The boundary cases of the document's ==== 2 (AWAKE, WILLING, RUNS, the acts and why not, how an HOUR goes) and of
 * the promises 1 to 16, sentence by sentence.
 */
public final class HourBoundaryChecks extends Checking {
    private static final int LEAST = Integer.MIN_VALUE;
    private static final int MOST = Integer.MAX_VALUE;
    /** Both are always willing. */
    private static final String FOND = "person a 0 0 50;person b 0 0 50;glass g a b 10 3;";
    /** The first is asleep but for the rest 5. */
    private static final String ASLEEP = "person a 5 6 50;person b 0 0 0;person c 5 6 0;glass g a b 10 5;";

    // ---- ==== 2: who is awake, what runs ----

    private static void awake() {
        terms("A PERSON is AWAKE in an HOUR whose rest by 24 is FROM or above and below TO;"
                + " if TO is below FROM: FROM or above, or below TO; if they are alike: always");
        String[] days = {
            "6 22 ......################..",
            "22 6 ######................##",
            "0 23 #######################.",
            "23 0 .......................#",
            "0 1 #.......................",
            "1 0 .#######################",
            "23 22 ######################.#",
            "13 13 ########################"};
        StringBuilder text = new StringBuilder();
        for (int p = 0; p < days.length; p++) {
            String[] day = days[p].split(" ");
            text.append("person ").append((char) ('a' + p)).append(' ').append(day[0]).append(' ').append(day[1])
                    .append(" 0;");
        }
        GlassVows x = parishOf(text.toString());
        for (int h = 0; h < 49; h++) {
            int bits = 0;
            for (int p = 0; p < days.length; p++) {
                boolean isUp = days[p].split(" ")[2].charAt(h % 24) == '#';
                bits |= isUp ? 1 << p : 0;
                if (h % 24 == 0 || h == 23 || h == 6 || h == 22) {
                    due("person(" + p + ", 0) at " + h, x.person(p, 0), isUp ? 1 : 0);
                }
            }
            due("now(3) at " + h, x.now(3), bits);
            x.hours(1);
        }
        live(x, 551);
        due("the rest of 600 is 0", x.now(3), 2 + 4 + 16 + 64 + 128);
        GlassVows y = parishOf("person a 0 0 0;person b 23 23 0;");
        live(y, 23);
        due("alike: always", y.now(3), 3);
        terms("also who was WOKEN in this HOUR");
        GlassVows z = parishOf(ASLEEP);
        due("asleep", z.person(0, 0), 0);
        due("woken", z.wake(0), 0);
        due("awake", z.person(0, 0), 1);
        due("not the others", z.person(2, 0), 0);
        z.hours(1);
        due("in that hour alone", z.person(0, 0), 0);
        terms("WILLING: AWAKE, and FOND as much as 'wish' at least");
        GlassVows w = parishOf("person a 0 0 98;person b 0 0 99;person c 5 6 99;wish 99;");
        due("one below", w.person(0, 5), 0);
        due("as much", w.person(1, 5), 1);
        due("asleep", w.person(2, 5), 0);
        w.wake(2);
        due("woken", w.person(2, 5), 1);
        due("a wish of 0", parishOf("person a 0 0 0;wish 0;").person(0, 5), 1);
        due("50 without", parishOf("person a 0 0 49;").person(0, 5), 0);
        due("50 without", parishOf("person a 0 0 50;").person(0, 5), 1);
    }

    private static void running() {
        terms("A GLASS has LEFT so many GRAINS above (all of them at first); its TILT is 0 upright, 1 aslant, 2 "
                + "level.");
        GlassVows x = parishOf("person a 0 0 0;person b 0 0 0;person c 0 0 0;person d 0 0 0;glass g a b 1 1;"
                + "glass h c d 250 9;level;");
        due("one", x.glass(0, 4), 1);
        due("250", x.glass(1, 4), 250);
        due("upright", x.glass(1, 5), 0);
        x.tilt(1, 1);
        due("aslant", x.glass(1, 5), 1);
        x.tilt(1, 2);
        due("level", x.glass(1, 5), 2);
        due("the other is not", x.glass(0, 5), 0);
        terms("RUNS of an HOUR: its NECK, by half if it is aslant, by half if the HOUR is damp (each cut, 1 at "
                + "least); none if it is level.");
        int[] halves = {0, 1, 1, 1, 2, 2, 3, 3, 4, 4};
        int[] quarters = {0, 1, 1, 1, 1, 1, 1, 1, 2, 2};
        for (int neck = 1; neck <= 9; neck++) {
            GlassVows y = parishOf("person a 0 0 0;person b 0 0 0;glass g a b 250 " + neck + ";damp 1 2;damp 2 2;"
                    + "level;");
            due("dry " + neck, y.glass(0, 9), neck);
            y.tilt(0, 1);
            due("dry, aslant " + neck, y.glass(0, 9), halves[neck]);
            y.tilt(0, 2);
            due("dry, level " + neck, y.glass(0, 9), 0);
            y.hours(1);
            due("nothing ran " + neck, y.glass(0, 4), 250);
            due("damp, level " + neck, y.glass(0, 9), 0);
            y.tilt(0, 0);
            due("damp " + neck, y.glass(0, 9), halves[neck]);
            y.hours(1);
            due("half as many went " + neck, y.glass(0, 4), 250 - halves[neck]);
            due("damp twice is damp " + neck, y.glass(0, 9), halves[neck]);
            y.tilt(0, 1);
            due("damp, aslant " + neck, y.glass(0, 9), quarters[neck]);
            y.hours(1);
            due("a quarter went " + neck, y.glass(0, 4), 250 - halves[neck] - quarters[neck]);
            due("dry again, aslant " + neck, y.glass(0, 9), halves[neck]);
        }
    }

    // ---- ==== 2: the acts ----

    private static void turning() {
        terms("To TURN (the glass of a PERSON): why not, the least: 1 not wed, or it is LAPSED; 2 not AWAKE;"
                + " 3 sand is LEFT, and 'early' was not told; 4 all of it is LEFT");
        GlassVows x = parishOf(ASLEEP);
        due("not wed, asleep", x.turn(2), 1);
        due("asleep, sand is left", x.turn(0), 2);
        due("all is left, not early", x.turn(1), 3);
        x.wake(2);
        due("not wed, awake", x.turn(2), 1);
        x.spill(0, 9);
        due("one is left", x.turn(1), 3);
        x.spill(0, 1);
        due("asleep, none is left", x.turn(0), 2);
        x.wake(0);
        due("woken", x.turn(0), 0);
        GlassVows l = parishOf(ASLEEP);
        live(l, 4);
        due("lapsed", l.glass(0, 6), 1);
        due("lapsed, asleep", l.turn(0), 1);
        due("lapsed, awake", l.turn(1), 1);
        GlassVows e = parishOf(ASLEEP + "early;");
        due("asleep, all is left", e.turn(0), 2);
        due("all is left", e.turn(1), 4);
        e.spill(0, 1);
        due("one has run", e.turn(1), 0);
        due("one is left", e.glass(0, 4), 1);
        e.spill(0, 1);
        due("none is left, early", e.turn(1), 0);
        due("all is left again", e.turn(1), 4);
        terms("LEFT is what had run, HOURS WAITED are 0.");
        GlassVows y = parishOf("person a 0 0 0;person b 0 0 0;glass g a b 10 3;early;grace 3;level;");
        y.hours(1);
        due("by the second", y.turn(1), 0);
        due("3 had run", y.glass(0, 4), 3);
        due("he turned", y.person(1, 4), 1);
        due("not the other", y.person(0, 4), 0);
        y.hours(1);
        y.tilt(0, 2);
        live(y, 2);
        due("waited", y.glass(0, 7), 2);
        due("a level one, too", y.turn(0), 0);
        due("waited 0", y.glass(0, 7), 0);
        due("all had run", y.glass(0, 4), 10);
        due("turned by both", y.glass(0, 8), 2);
        y.tilt(0, 0);
        live(y, 6);
        due("waited anew", y.glass(0, 7), 2);
        due("not lapsed", y.glass(0, 6), 0);
        GlassVows z = parishOf(FOND + "early;");
        live(z, 600);
        z.spill(0, z.glass(0, 4) - 1);
        due("behind the last hour, too", z.turn(0), 0);
        due("9 had run", z.glass(0, 4), 9);
    }

    private static void wakingAndWooing() {
        terms("To WAKE: 1 AWAKE.");
        GlassVows x = parishOf(ASLEEP);
        due("awake", x.wake(1), 1);
        due("asleep", x.wake(0), 0);
        due("woken already", x.wake(0), 1);
        due("not wed", x.wake(2), 0);
        x.hours(1);
        due("in another hour", x.wake(0), 0);
        live(x, 3);
        due("lapsed", x.glass(0, 6), 1);
        due("lapsed, asleep", x.wake(0), 0);
        x.hours(1);
        due("awake by his hours", x.wake(0), 1);
        live(x, 60);
        live(x, 535);
        due("behind the last hour", x.wake(0), 0);
        terms("To WOO by n: 1 not wed, or LAPSED; 2 not AWAKE: the other one is n more FOND (99 at most).");
        GlassVows y = parishOf("person a 5 6 60;person b 0 0 79;person c 5 6 0;glass g a b 10 5;wish 99;");
        due("not wed, asleep", y.woo(2, 1), 1);
        due("asleep", y.woo(0, 1), 2);
        y.wake(2);
        due("not wed, awake", y.woo(2, 1), 1);
        due("by who is not fond, of who is asleep", y.woo(1, 1), 0);
        due("1 more", y.person(0, 1), 61);
        y.wake(0);
        due("woken", y.woo(0, 20), 0);
        due("20 more, to 99", y.person(1, 1), 99);
        due("to 99 already", y.woo(0, 1), 0);
        due("99 at most", y.person(1, 1), 99);
        for (int i = 0; i < 2; i++) {
            y.woo(1, 19);
        }
        due("99", y.person(0, 1), 99);
        y.woo(1, 20);
        due("99 at most", y.person(0, 1), 99);
        GlassVows z = parishOf("person a 5 6 60;person b 0 0 80;glass g a b 10 5;wish 99;");
        z.wake(0);
        z.woo(0, 20);
        due("not 100", z.person(1, 1), 99);
        z.undo();
        live(z, 4);
        due("lapsed", z.glass(0, 6), 1);
        due("lapsed, asleep", z.woo(0, 1), 1);
        due("lapsed, awake", z.woo(1, 1), 1);
        due("as fond as before", z.person(0, 1), 60);
    }

    private static void tiltingToSpilling() {
        terms("To TILT a GLASS to K: 1 LAPSED; 2 it is so; 3 K is 2, and 'level' was not told.");
        GlassVows x = parishOf(UNFOND);
        due("it is so", x.tilt(0, 0), 2);
        due("not told", x.tilt(0, 2), 3);
        due("aslant", x.tilt(0, 1), 0);
        due("it is so", x.tilt(0, 1), 2);
        due("not told", x.tilt(0, 2), 3);
        due("as it was", x.glass(0, 5), 1);
        live(x, 12);
        due("lapsed", x.glass(0, 6), 1);
        for (int k = 0; k < 3; k++) {
            due("lapsed, K " + k, x.tilt(0, k), 1);
        }
        GlassVows y = parishOf(UNFOND + "level;");
        due("told", y.tilt(0, 2), 0);
        due("it is so", y.tilt(0, 2), 2);
        due("from level to aslant", y.tilt(0, 1), 0);
        due("from aslant to level", y.tilt(0, 2), 0);
        due("from level to upright", y.tilt(0, 0), 0);
        terms("To WIDEN by n: 1 LAPSED; 2 its NECK would be above 9.");
        GlassVows z = parishOf("person a 0 0 0;person b 0 0 0;glass g a b 9 1;");
        due("1 and 8", z.widen(0, 8), 0);
        due("9", z.glass(0, 3), 9);
        due("10", z.widen(0, 1), 2);
        due("9 still", z.glass(0, 3), 9);
        z.undo();
        due("1 and 7", z.widen(0, 7), 0);
        due("8 and 2", z.widen(0, 2), 2);
        due("8 and 1", z.widen(0, 1), 0);
        live(z, 3);
        due("lapsed", z.glass(0, 6), 1);
        due("lapsed, above 9", z.widen(0, 8), 1);
        GlassVows v = parishOf("person a 0 0 0;person b 0 0 0;glass g a b 1 1;");
        live(v, 3);
        due("lapsed, not above 9", v.widen(0, 1), 1);
        terms("To SPILL n: 1 LAPSED; 2 fewer are LEFT: n fewer are.");
        GlassVows w = parishOf("person a 0 0 0;person b 0 0 0;glass g a b 250 1;");
        due("all of 250", w.spill(0, 250), 0);
        due("none is left", w.glass(0, 4), 0);
        due("fewer", w.spill(0, 1), 2);
        due("none still", w.glass(0, 4), 0);
        w.undo();
        due("249", w.spill(0, 249), 0);
        due("2 of 1", w.spill(0, 2), 2);
        due("one still", w.glass(0, 4), 1);
        due("1 of 1", w.spill(0, 1), 0);
        live(w, 2);
        due("lapsed", w.glass(0, 6), 1);
        due("lapsed, none left", w.spill(0, 1), 1);
    }

    // ---- ==== 2: how an hour goes ----

    private static void turningInAnHour() {
        terms("An HOUR (0 to 599; 600: all are over) goes: GLASS by GLASS that is not LAPSED");
        GlassVows x = parishOf("person a 0 0 0;person b 0 0 0;person c 0 0 50;person d 0 0 0;glass g a b 1 1;"
                + "glass h c d 1 1;");
        live(x, 3);
        due("lapsed", x.now(2), 1);
        x.hours(1);
        due("a lapsed one is not turned and waits no more", x.glass(0, 7) * 10 + x.glass(0, 8), 20);
        due("the other goes on", x.glass(1, 8), 2);
        live(x, 596);
        due("600", x.now(0), 600);
        due("all are over", x.hours(1), 0);
        due("600 still", x.now(0), 600);
        terms("if none are LEFT at its beginning: the first of the two who is WILLING turns it (the first told, else "
                + "the second): all GRAINS are LEFT, WAITED 0");
        GlassVows y = parishOf("person a 0 0 50;person b 0 0 50;glass g b a 2 2;");
        y.hours(1);
        due("not in the hour in which the last run", y.glass(0, 8), 0);
        y.hours(1);
        due("the first told by the glass", y.person(1, 4), 1);
        due("not the second", y.person(0, 4), 0);
        due("all, and none runs in this hour", y.glass(0, 4), 2);
        GlassVows z = parishOf("person a 0 0 49;person b 0 0 50;glass g a b 2 2;");
        live(z, 2);
        due("the first is not fond", z.person(1, 4) * 10 + z.person(0, 4), 10);
        GlassVows w = parishOf("person a 5 6 99;person b 0 0 50;glass g a b 2 2;");
        live(w, 2);
        due("the first is asleep", w.person(1, 4) * 10 + w.person(0, 4), 10);
        GlassVows v = parishOf("person a 5 6 50;person b 0 0 50;glass g a b 2 2;");
        v.hours(1);
        v.wake(0);
        v.hours(1);
        due("the first was woken", v.person(0, 4) * 10 + v.person(1, 4), 10);
        GlassVows u = parishOf("person a 3 4 50;person b 0 0 0;glass g a b 2 2;grace 3;level;");
        u.hours(1);
        u.tilt(0, 2);
        live(u, 2);
        due("waited", u.glass(0, 7), 2);
        u.hours(1);
        due("a level one, too: waited 0", u.glass(0, 7) * 10 + u.glass(0, 4), 2);
        terms("if none is, it has WAITED an HOUR more, and LAPSES, if these are as many as 'grace' at least.");
        for (int grace = 1; grace <= 9; grace++) {
            GlassVows t = parishOf("person a 0 0 49;person b 10 11 99;glass g a b 4 2;grace " + grace + ";");
            live(t, 2 + grace - 1);
            due("not lapsed at " + grace, t.glass(0, 6) * 10 + t.glass(0, 7), grace - 1);
            t.hours(1);
            boolean isTurned = grace == 9;
            due("lapsed at " + grace, t.glass(0, 6), isTurned ? 0 : 1);
            due("waited at " + grace, t.glass(0, 7), isTurned ? 0 : grace);
            due("left at " + grace, t.glass(0, 4), isTurned ? 4 : 0);
        }
        terms("If some are LEFT at its beginning, as many go as it RUNS (all, if there are not as many).");
        int[] behind = {0, 0, 0, 0, 0, 0, 0, 0, 0, 0, 1, 2};
        for (int grains = 1; grains <= 11; grains++) {
            GlassVows s = parishOf("person a 0 0 99;person b 0 0 99;glass g a b " + grains + " 9;");
            s.hours(1);
            due("left of " + grains, s.glass(0, 4), behind[grains]);
            due("not turned", s.glass(0, 8), 0);
            due("not waited", s.glass(0, 7), 0);
        }
    }

    private static void daysEnd() {
        terms("Nobody is WOKEN any more.");
        GlassVows x = parishOf(ASLEEP);
        x.wake(0);
        x.wake(2);
        due("woken", x.now(3), 7);
        x.hours(1);
        due("not any more", x.now(3), 2);
        x.wake(0);
        x.drawn(1, 0);
        due("nor behind a drawn hour", x.now(3), 2);
        terms("Behind HOURS 23, 47, 71, .. each PERSON is as much FONDER as he warms, then as much less as he cools "
                + "(0 to 99).");
        GlassVows y = parishOf("person a 0 0 10;person b 0 0 98;person c 0 0 9;person d 0 0 0;person e 0 0 99;"
                + "warms a 9;cools a 1;warms b 1;cools c 9;cools d 1;warms e 9;cools e 9;glass g d c 1 1;");
        live(y, 23);
        due("not ahead of the end of hour 23", y.person(0, 1), 10);
        y.hours(1);
        int[] day = {18, 99, 0, 0, 90};
        for (int p = 0; p < 5; p++) {
            due("person(" + p + ", 1) behind hour 23", y.person(p, 1), day[p]);
        }
        live(y, 23);
        due("not ahead of the end of hour 47", y.person(0, 1), 18);
        y.hours(1);
        due("behind hour 47", y.person(0, 1), 26);
        due("99 at most", y.person(1, 1), 99);
        due("0 at least", y.person(2, 1), 0);
        due("from 90 to 99, then less", y.person(4, 1), 90);
        live(y, 24);
        due("behind hour 71", y.person(0, 1), 34);
        GlassVows z = parishOf("person a 0 0 0;person b 0 0 99;warms a 1;cools b 1;");
        live(z, 599);
        due("24 days", z.person(0, 1) * 100 + z.person(1, 1), 2475);
        z.hours(1);
        due("behind hour 599, too", z.person(0, 1) * 100 + z.person(1, 1), 2574);
        GlassVows w = parishOf("person a 0 0 49;person b 0 0 0;warms a 1;glass g a b 23 1;grace 1;");
        live(w, 24);
        due("not fond enough in hour 23", w.glass(0, 6), 1);
        GlassVows v = parishOf("person a 0 0 50;person b 0 0 0;cools a 1;glass g a b 23 1;grace 1;");
        live(v, 24);
        due("fond enough in hour 23 still", v.glass(0, 8), 1);
        terms("It is the next HOUR.");
        due("24", v.now(0), 24);
    }

    private static void newParish() {
        terms("A new PARISH: HOUR 0, all GRAINS LEFT, upright, nobody WOKEN, no SENTENCE.");
        GlassVows x = parishOf(ASLEEP + "early;");
        String first = stateOf(x);
        sentenceOf(x, "run");
        x.tilt(0, 1);
        x.widen(0, 2);
        live(x, 26);
        x.wake(0);
        tell(x, ASLEEP + "early;");
        due("parish()", x.parish(), 5);
        due("all as at first", stateOf(x), first);
        due("no sentence", x.said(NONE), NONE);
        due("nothing to undo", x.undo(), NONE);
        terms("A call that throws changes nothing.");
        GlassVows y = parishOf(ASLEEP);
        y.wake(0);
        tell(y, "x");
        String before = stateOf(y);
        due("person(3, 0)", personThrows(y, 3, 0), true);
        due("person(0, 6)", personThrows(y, 0, 6), true);
        due("glass(1, 0)", glassThrows(y, 1, 0), true);
        due("glass(0, 10)", glassThrows(y, 0, 10), true);
        due("all stays", stateOf(y), before);
        due("the tape stays", y.count(8), 1);
        due("what can be undone stays", y.undo(), 0);
    }

    // ---- promises 1 to 5 ----

    private static void tape() {
        promise(1, "An empty PARISH; an empty tape.");
        GlassVows x = new GlassVows();
        due("state", stateOf(x), "0 0 0 2 50 0 0 0 0 0 0 0 0 0 ");
        due("tape", x.count(8), 0);
        due("no sentence", x.said(NONE), NONE);
        due("no person", personThrows(x, 0, 0), true);
        due("no glass", glassThrows(x, 0, 0), true);
        due("hours go in it", x.hours(60), 60);
        due("the hour", x.now(0), 60);
        promise(2, "Twenty bytes come behind the tape, of each number the highest first: how many it has;"
                + " NONE, and none come, if it would have more than 940.");
        GlassVows y = new GlassVows();
        due("feed", y.feed(0x70657273, 0x6f6e2061, 0x62636465, 0x66203120, 0x32203920), 20);
        due("feed", y.feed(0x3b3b3b3b, 0, -1, LEAST, MOST), 40);
        y.end(21);
        due("person abcdef 1 2 9 ;", y.parish(), 1);
        due("fond", y.person(0, 1), 9);
        for (int n = 20; n <= 940; n += 20) {
            due("feed to " + n, y.feed(0x20202020, 0x20202020, 0x20202020, 0x20202020, 0x20202020), n);
        }
        due("960", y.feed(0x2e2e2e2e, 0x2e2e2e2e, 0x2e2e2e2e, 0x2e2e2e2e, 0x2e2e2e2e), NONE);
        due("940 still", y.count(8), 940);
        y.end(921);
        due("941", y.feed(0x2e2e2e2e, 0x2e2e2e2e, 0x2e2e2e2e, 0x2e2e2e2e, 0x2e2e2e2e), NONE);
        due("921 still", y.count(8), 921);
        due("901 and more blanks: at 900", y.parish(), -901);
        for (int n = 20; n <= 920; n += 20) {
            y.feed(0x20202020, 0x20202020, 0x20202020, 0x20202020, 0x20202020);
        }
        due("940", y.feed(0x2e2e2e2e, 0x2e2e2e2e, 0x2e2e2e2e, 0x2e2e2e2e, 0x2e2e2e2e), 940);
        due("behind the tape", y.end(899), true);
        due("899 and 20", y.feed(0x20202e20, 0x20202020, 0x20202020, 0x20202020, 0x20202020), 919);
        due("901 and more", y.parish(), -901);
        promise(3, "The tape has its first n bytes alone: true; false, if it has not so many, or n is below 0.");
        GlassVows z = new GlassVows();
        due("0 of 0", z.end(0), true);
        due("1 of 0", z.end(1), false);
        tell(z, "early;level;early;");
        due("18 of 18", z.end(18), true);
        due("19 of 18", z.end(19), false);
        due("-1", z.end(-1), false);
        due("the least", z.end(LEAST), false);
        due("the most", z.end(MOST), false);
        due("all are there", z.count(8), 18);
        due("12", z.end(12), true);
        due("13 of 12", z.end(13), false);
        due("12", z.count(8), 12);
        due("the first 12", z.parish(), 2);
        tell(z, "early" + " ".repeat(15));
        due("5", z.end(5), true);
        due("the blanks behind it are gone: a fault at 5", z.parish(), -6);
        tell(z, "wish 5");
        due("5", z.end(5), true);
        due("the digit behind it is gone: a fault at 5", z.parish(), -6);
        tell(z, "early;");
        due("0", z.end(0), true);
        due("an empty text", z.parish(), 0);
    }

    private static void parishAndFault() {
        promise(4, "The tape (empty then, here and below) is the PARISH now: how many LINES;"
                + " -1 less the place of a FAULT: it stays.");
        GlassVows x = parishOf(FOND);
        x.hours(5);
        String before = stateOf(x);
        tell(x, ".early;");
        due("place 0", x.parish(), -1);
        due("it stays", stateOf(x), before);
        due("the tape is empty", x.count(8), 0);
        due("what was done can be undone", x.undo(), 0);
        tell(x, "early;" + " ".repeat(934));
        due("place 900", x.parish(), -901);
        due("the tape is empty", x.count(8), 0);
        tell(x, "e" + "arly;level;".repeat(1));
        due("lines", x.parish(), 2);
        due("the tape is empty", x.count(8), 0);
        due("an empty tape: an empty parish", x.parish(), 0);
        due("of it", stateOf(x), "0 0 0 2 50 0 0 0 0 0 0 0 0 0 ");
        anotherParish();
        promise(5, "The kind of the FAULT of the latest parish(), roll() or sentence() (a roll() of -1000 leaves it);"
                + " 0 without one and ahead of any.");
        GlassVows y = new GlassVows();
        due("ahead of any", y.fault(), 0);
        due("roll(2)", y.roll(2), -1000);
        due("ahead of any", y.fault(), 0);
        tell(y, "wish 100;");
        y.parish();
        due("of a parish", y.fault(), 2);
        due("asked again", y.fault(), 2);
        due("roll(-1)", y.roll(-1), -1000);
        due("left", y.fault(), 2);
        y.image(0);
        y.restore(0);
        ringsOf(y, 0, 5);
        y.end(0);
        due("left by other calls", y.fault(), 2);
        due("an empty roll", y.roll(1), NONE);
        due("without one", y.fault(), 0);
        rollOf(y, "zed turns;", 1);
        due("of a roll", y.fault(), 3);
        sentenceOf(y, "run" + " or run".repeat(20));
        due("of a sentence", y.fault(), 4);
        sentenceOf(y, "run");
        due("without one", y.fault(), 0);
        sentenceOf(y, "");
        due("of an empty sentence", y.fault(), 1);
        y.parish();
        due("without one", y.fault(), 0);
    }

    /** A text with a FAULT at its end tells another parish, of which nothing must be seen; nor of an earlier one. */
    private static void anotherParish() {
        String two = "person ann 5 6 50;person bob 0 22 60;person cal 1 2 99;person dot 8 9 55;warms ann 2;"
                + "cools bob 3;glass g dot cal 20 3;glass h ann bob 60 2;good k h 5 6;good l h 3 9;damp 3 30;grace 3;"
                + "wish 52;";
        String[] others = {".", "person zed 0 0 1;.", "person zed 0 0 1;person kit 0 0 2;warms kit 9;cools zed 9;"
                + "glass m zed kit 7 9;good n m 1 1;damp 0 599;grace 9;wish 1;early;level;.", two.replace("dot cal",
                "bob dot")
            .replace("ann bob", "cal ann").replace("5 6 50", "0 0 0").replace("1 2 99", "0 0 0") + "."};
        for (String other : others) {
            GlassVows x = parishOf(two);
            x.hours(2);
            sentenceOf(x, "both or of bob and left>5");
            String before = answersOf(x);
            tell(x, other);
            due("a fault at its end", x.parish(), -other.length());
            due("nothing of it is seen", answersOf(x), before);
            due("the fourth turns", x.turn(3), 2);
            due("the fourth is woken", x.wake(3), 0);
            due("the fourth woos", x.woo(3, 1), 0);
            due("the second is tilted", x.tilt(1, 1), 0);
            due("the second is widened", x.widen(1, 1), 0);
            due("of the second one is spilt", x.spill(1, 1), 0);
        }
        GlassVows y = parishOf(two + "early;level;");
        y.tilt(0, 1);
        y.hours(1);
        tell(y, "person a 0 0 50;person b 0 0 0;person c 0 0 0;");
        due("a parish without glasses", y.parish(), 3);
        due("none are left", y.now(5), 0);
        due("none was turned", y.now(4), 0);
        due("none is lapsed", y.now(2), 0);
        due("not wed", y.person(0, 2), NONE);
    }

    // ---- promises 6 to 8 ----

    private static void asked() {
        promise(6, "0 AWAKE now (1, 0), 1 FOND, 2 his GLASS (NONE: not wed), 3 the other one of it (NONE), 4 how "
                + "often he turned it so far, 5 WILLING now (1, 0). NoSuchElementException: no such ones.");
        GlassVows x = parishOf("person c 0 0 0;person b 5 6 50;person a 0 0 99;glass g a b 3 3;");
        String[] due = {"1 0 -1 -1 0 0", "0 50 0 2 0 0", "1 99 0 1 0 1"};
        for (int p = 0; p < 3; p++) {
            StringBuilder s = new StringBuilder();
            for (int what = 0; what < 6; what++) {
                s.append(what > 0 ? " " : "").append(x.person(p, what));
            }
            due("person " + p, s.toString(), due[p]);
        }
        live(x, 2);
        due("turned by an hour", x.person(2, 4), 1);
        x.hours(1);
        due("he turns", x.turn(2), 0);
        due("turned by an act", x.person(2, 4), 2);
        due("not by the other", x.person(1, 4), 0);
        for (int n : new int[] {3, 8, -1, LEAST, MOST}) {
            due("person(" + n + ", 0)", personThrows(x, n, 0), true);
        }
        for (int n : new int[] {6, -1, LEAST, MOST}) {
            due("person(0, " + n + ")", personThrows(x, 0, n), true);
        }
        GlassVows l = parishOf(UNFOND);
        live(l, 7);
        due("wed by a lapsed one still", l.person(0, 2) * 10 + l.person(0, 3), 1);
        promise(7, "Of a GLASS: 0 the first, 1 the second of the two, 2 GRAINS, 3 NECK, 4 LEFT, 5 TILT, 6 LAPSED (1, "
                + "0), 7 HOURS WAITED, 8 how often it was turned so far, 9 RUNS of this HOUR (LAPSED, or all are "
                + "over: 0). NoSuchElementException: no such ones.");
        String[] lapsing = {"0 1 10 2 10 0 0 0 0 2", "0 1 10 2 0 0 0 0 0 2", "0 1 10 2 0 0 0 1 0 2",
                "0 1 10 2 0 0 1 2 0 0"};
        int[] hours = {0, 5, 6, 7};
        GlassVows y = parishOf(UNFOND);
        for (int i = 0; i < hours.length; i++) {
            live(y, hours[i] - y.now(0));
            StringBuilder s = new StringBuilder();
            for (int what = 0; what < 10; what++) {
                s.append(what > 0 ? " " : "").append(y.glass(0, what));
            }
            due("glass at " + hours[i], s.toString(), lapsing[i]);
        }
        GlassVows z = parishOf(FOND + "damp 599 599;");
        live(z, 598);
        due("dry", z.glass(0, 9), 3);
        z.hours(1);
        due("the last hour is damp", z.glass(0, 9), 1);
        z.hours(1);
        due("all are over", z.glass(0, 9), 0);
        for (int n : new int[] {1, 4, -1, LEAST, MOST}) {
            due("glass(" + n + ", 0)", glassThrows(z, n, 0), true);
        }
        for (int n : new int[] {10, -1, LEAST, MOST}) {
            due("glass(0, " + n + ")", glassThrows(z, 0, n), true);
        }
    }

    private static void nows() {
        promise(8, "0 the HOUR, 1 whether it is damp (1, 0), 2 who is LAPSED, as bits, 3 who is AWAKE, as bits, 4 "
                + "turnings so far, 5 all that is LEFT (LAPSED ones, too). NONE for another what.");
        GlassVows x = parishOf("damp 3 4;damp 6 6;damp 599 599;damp 0 0;");
        int[] damp = {1, 0, 0, 1, 1, 0, 1, 0};
        for (int h = 0; h < damp.length; h++) {
            due("hour", x.now(0), h);
            due("damp at " + h, x.now(1), damp[h]);
            x.hours(1);
        }
        live(x, 590);
        due("damp at 598", x.now(1), 0);
        x.hours(1);
        due("damp at 599", x.now(1), 1);
        x.hours(1);
        due("damp at 600", x.now(1), 0);
        GlassVows y = parishOf("person a 0 0 0;person b 0 0 0;person c 0 0 50;person d 1 2 0;person e 0 0 0;"
                + "person f 0 0 0;person i 0 0 0;person j 22 2 0;glass g a b 250 1;glass h c d 2 2;glass k e f 1 1;"
                + "glass l i j 1 1;grace 1;early;");
        due("all are awake but one", y.now(3), 255 - 8);
        due("all is left", y.now(5), 254);
        live(y, 2);
        due("two are lapsed", y.now(2), 12);
        due("turnings", y.now(4), 1);
        due("all that is left", y.now(5), 250);
        due("awake", y.now(3), 255 - 8 - 128);
        live(y, 2);
        due("turnings by hours", y.now(4), 2);
        due("one turns", y.turn(0), 0);
        due("by hours and acts", y.now(4), 3);
        for (int n : new int[] {6, -1, LEAST, MOST}) {
            due("now(" + n + ")", y.now(n), NONE);
        }
    }

    // ---- promises 9 to 16 ----

    private static void noSuchActs() {
        GlassVows x = parishOf(ASLEEP + "level;");
        GlassVows empty = new GlassVows();
        String before = stateOf(x);
        for (int n : new int[] {3, 8, -1, LEAST, MOST}) {
            promise(9, "A PERSON TURNS: 0, or why not; NONE: no such one.");
            due("turn(" + n + ")", x.turn(n), NONE);
            promise(10, "He is WOKEN: 0, or why not; NONE: no such one.");
            due("wake(" + n + ")", x.wake(n), NONE);
            promise(11, "He WOOS by n (1 to 20): 0, or why not; NONE: no such ones.");
            due("woo(" + n + ", 1)", x.woo(n, 1), NONE);
        }
        for (int n : new int[] {1, 4, -1, LEAST, MOST}) {
            promise(12, "A GLASS is TILTED to K (0 to 2): 0, or why not; NONE: no such ones.");
            due("tilt(" + n + ", 1)", x.tilt(n, 1), NONE);
            promise(13, "It is WIDENED by n (1 to 8): 0, or why not; NONE: no such ones.");
            due("widen(" + n + ", 1)", x.widen(n, 1), NONE);
            promise(14, "n (1 to 250) are SPILT: 0, or why not; NONE: no such ones.");
            due("spill(" + n + ", 1)", x.spill(n, 1), NONE);
        }
        promise(9, "NONE: no such one.");
        due("an empty parish", empty.turn(0), NONE);
        promise(10, "NONE: no such one.");
        due("an empty parish", empty.wake(0), NONE);
        promise(11, "He WOOS by n (1 to 20)");
        due("an empty parish", empty.woo(0, 1), NONE);
        for (int n : new int[] {0, 21, -1, LEAST, MOST}) {
            due("woo(1, " + n + ")", x.woo(1, n), NONE);
            due("asleep, woo(0, " + n + ")", x.woo(0, n), NONE);
            due("not wed, woo(2, " + n + ")", x.woo(2, n), NONE);
        }
        promise(12, "A GLASS is TILTED to K (0 to 2)");
        due("an empty parish", empty.tilt(0, 1), NONE);
        for (int n : new int[] {3, -1, LEAST, MOST}) {
            due("tilt(0, " + n + ")", x.tilt(0, n), NONE);
        }
        promise(13, "It is WIDENED by n (1 to 8)");
        due("an empty parish", empty.widen(0, 1), NONE);
        for (int n : new int[] {0, 9, -1, LEAST, MOST}) {
            due("widen(0, " + n + ")", x.widen(0, n), NONE);
        }
        promise(14, "n (1 to 250) are SPILT");
        due("an empty parish", empty.spill(0, 1), NONE);
        for (int n : new int[] {0, 251, -1, LEAST, MOST}) {
            due("spill(0, " + n + ")", x.spill(0, n), NONE);
        }
        due("fewer than 250", x.spill(0, 250), 2);
        due("all stays", stateOf(x), before);
        due("nothing to undo", x.undo(), NONE);
        live(x, 4);
        due("lapsed", x.glass(0, 6), 1);
        due("lapsed, but 251 is not as told", x.spill(0, 251), NONE);
        promise(13, "NONE: no such ones.");
        due("lapsed, but 9 is not as told", x.widen(0, 9), NONE);
        promise(12, "NONE: no such ones.");
        due("lapsed, but 3 is not as told", x.tilt(0, 3), NONE);
        promise(11, "NONE: no such ones.");
        due("lapsed, but 21 is not as told", x.woo(1, 21), NONE);
    }

    private static void refusedActs() {
        GlassVows x = parishOf(ASLEEP);
        x.hours(1);
        String before = stateOf(x);
        promise(9, "A PERSON TURNS: 0, or why not");
        due("turn(2)", x.turn(2), 1);
        due("turn(0)", x.turn(0), 2);
        due("turn(1)", x.turn(1), 3);
        promise(10, "He is WOKEN: 0, or why not");
        due("wake(1)", x.wake(1), 1);
        promise(11, "0, or why not");
        due("woo(2, 20)", x.woo(2, 20), 1);
        due("woo(0, 20)", x.woo(0, 20), 2);
        promise(12, "0, or why not");
        due("tilt(0, 0)", x.tilt(0, 0), 2);
        due("tilt(0, 2)", x.tilt(0, 2), 3);
        promise(13, "0, or why not");
        due("widen(0, 5)", x.widen(0, 5), 2);
        promise(14, "0, or why not");
        due("spill(0, 6)", x.spill(0, 6), 2);
        due("what is refused changes nothing", stateOf(x), before);
        due("and is not kept", x.undo(), 0);
        due("the hour is undone", x.now(0), 0);
        promise(11, "He WOOS by n (1 to 20)");
        due("1", x.woo(1, 1), 0);
        due("20", x.woo(1, 20), 0);
        due("71", x.person(0, 1), 71);
        promise(14, "n (1 to 250) are SPILT");
        due("1", x.spill(0, 1), 0);
        due("9", x.glass(0, 4), 9);
    }

    private static void hoursGo() {
        promise(15, "n (1 to 60) HOURS go by: how many did; NONE: not as told.");
        GlassVows x = parishOf(FOND);
        for (int n : new int[] {0, 61, -1, LEAST, MOST}) {
            due("hours(" + n + ")", x.hours(n), NONE);
        }
        due("none went", x.now(0), 0);
        due("1", x.hours(1), 1);
        due("60", x.hours(60), 60);
        due("61 went", x.now(0), 61);
        live(x, 538);
        due("599", x.now(0), 599);
        due("one of 60", x.hours(60), 1);
        due("600", x.now(0), 600);
        due("none of 1", x.hours(1), 0);
        due("none of 60", x.hours(60), 0);
        due("61 behind the last", x.hours(61), NONE);
        due("0 behind the last", x.hours(0), NONE);
        x.undo();
        due("599", x.now(0), 599);
        due("one of 1", x.hours(1), 1);
        GlassVows y = parishOf(FOND);
        live(y, 541);
        due("59 of 60", y.hours(60), 59);
        GlassVows one = parishOf(FOND);
        GlassVows other = parishOf(FOND);
        live(one, 60);
        for (int i = 0; i < 60; i++) {
            other.hours(1);
        }
        due("60 at once, and one by one", stateOf(one), stateOf(other));
    }

    private static void undone() {
        promise(16, "The latest of turn(), wake(), woo(), tilt(), widen(), spill() that was done, hours() above 0, "
                + "drawn() above 0, a ROLL that was lived is undone: how many more can be (8 at most are kept);"
                + " NONE: none is.");
        GlassVows x = parishOf("person a 5 6 50;person b 0 0 0;glass g a b 100 5;early;level;");
        due("none", x.undo(), NONE);
        String[] before = new String[9];
        for (int i = 0; i < 9; i++) {
            before[i] = glimpseOf(x);
            due("act " + i, act(x, i), i < 6 ? 0 : i == 8 ? NONE : 2);
            due("act " + i + " changes something", glimpseOf(x).equals(before[i]), false);
        }
        for (int i = 8; i > 0; i--) {
            due("undo of act " + i, x.undo(), i - 1);
            due("all as ahead of act " + i, glimpseOf(x), before[i]);
        }
        due("the ninth is not kept", x.undo(), NONE);
        due("the first stays done", glimpseOf(x), before[1]);
        due("anew", x.hours(1), 1);
        due("and undone", x.undo(), 0);
        GlassVows y = parishOf(FOND);
        for (int i = 0; i < 100; i++) {
            y.hours(1);
        }
        due("8 are kept", y.undo(), 7);
        for (int i = 0; i < 3; i++) {
            y.undo();
        }
        due("96", y.now(0), 96);
        for (int i = 0; i < 3; i++) {
            y.hours(2);
        }
        due("4 and 3 were kept", y.undo(), 6);
        due("100", y.now(0), 100);
        GlassVows z = parishOf("person a 0 0 0;person b 0 0 0;person c 0 0 0;person d 0 0 0;person e 0 0 0;"
                + "person f 0 0 0;person i 0 0 0;person j 0 0 9;glass g a b 9 1;glass h c d 9 1;glass k e f 9 1;"
                + "glass l i j 9 1;early;");
        z.hours(1);
        String all = stateOf(z);
        due("the eighth woos", z.woo(7, 5), 0);
        due("the seventh woos", z.woo(6, 5), 0);
        due("the eighth turns", z.turn(7), 0);
        for (int i = 0; i < 3; i++) {
            z.undo();
        }
        due("all of the eighth is undone", stateOf(z), all);
        notUndone();
    }

    /** What the acts of act() change: few calls, for an object is used for 512 at most. */
    private static String glimpseOf(GlassVows x) {
        int[] answers = {x.now(0), x.now(3), x.now(4), x.person(0, 1), x.person(1, 1), x.person(0, 4), x.glass(0, 3),
            x.glass(0, 4), x.glass(0, 5), x.glass(0, 7)};
        return java.util.Arrays.toString(answers);
    }

    private static int act(GlassVows x, int i) {
        switch (i) {
            case 0:
                return x.spill(0, 60);
            case 1:
                return x.wake(0);
            case 2:
                return x.woo(0, 20);
            case 3:
                return x.tilt(0, 1);
            case 4:
                return x.widen(0, 2);
            case 5:
                return x.turn(0);
            case 6:
                return x.hours(2);
            case 7:
                return x.drawn(2, 5);
            default:
                return rollOf(x, "b woos 5;hour 2;g spills 1;", 1);
        }
    }

    private static void notUndone() {
        GlassVows x = parishOf(FOND);
        String first = stateOf(x);
        x.hours(2);
        rollOf(x, "hour 60;", 0);
        rollOf(x, "hour 60;hour", 1);
        rollOf(x, "", 1);
        rollOf(x, "a wakes;hour 60;", 1);
        sentenceOf(x, "run");
        x.image(0);
        x.ends(0);
        x.watch(0, 60);
        x.odds(0, 30, 1);
        x.banns(0);
        tell(x, "early;early;");
        x.parish();
        due("only the hours were done", x.undo(), 0);
        due("they are undone", stateOf(x), first);
        due("the sentence is not", x.said(NONE), 0);
        due("none", x.undo(), NONE);
        due("what was undone can't be undone", stateOf(x), first);
        live(x, 600);
        due("none are left", x.hours(60) + x.drawn(60, 1), 0);
        due("the last of ten is undone", x.undo(), 7);
        due("540", x.now(0), 540);
        due("lived in part", rollOf(x, "hour 59;hour 2;hour 1;", 1), 1);
        due("599", x.now(0), 599);
        due("undone whole", x.undo(), 7);
        due("540", x.now(0), 540);
        x.image(1);
        x.hours(1);
        x.restore(1);
        due("nothing behind a restore()", x.undo(), NONE);
        x.hours(1);
        tell(x, FOND);
        x.parish();
        due("nothing behind a parish()", x.undo(), NONE);
    }

    public static void main(String[] args) {
        awake();
        running();
        turning();
        wakingAndWooing();
        tiltingToSpilling();
        turningInAnHour();
        daysEnd();
        newParish();
        tape();
        parishAndFault();
        asked();
        nows();
        noSuchActs();
        refusedActs();
        hoursGo();
        undone();
        quotesAreDue(1, 16);
        finish("HourBoundaryChecks");
    }
}
