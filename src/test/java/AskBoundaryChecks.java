/**
 * The boundary cases of the document's ==== 3 (what is asked by what would go on from now on) and of the promises 17
 * to 43, sentence by sentence.
 */
public final class AskBoundaryChecks extends Checking {
    private static final int LEAST = Integer.MIN_VALUE;
    private static final int MOST = Integer.MAX_VALUE;
    private static final String PAIR = "person a 0 0 50;person b 0 0 50;";
    private static final String COLD = "person a 0 0 0;person b 0 0 0;";
    private static final String COLDS = COLD + "person c 0 0 0;person d 0 0 0;";
    private static final String EIGHT = COLDS + "person e 0 0 0;person f 0 0 0;person i 0 0 0;person j 0 0 0;";
    private static final int[] NO_GLASS = {1, 4, -1, LEAST, MOST};

    /** A glass of so many grains, neck 1, of which none ran ahead of an hour. */
    private static GlassVows heldUntil(int hour, int grains, String more) {
        GlassVows x = parishOf(COLD + "glass g a b " + grains + " 1;level;" + more);
        x.tilt(0, 2);
        live(x, hour);
        x.tilt(0, 0);
        return x;
    }

    private static GlassVows lapsed() {
        GlassVows x = parishOf(UNFOND);
        live(x, 7);
        due("lapsed", x.glass(0, 6), 1);
        return x;
    }

    private static void nothingIsDone() {
        terms("All here by what would go on from now on, if nothing else is done.");
        GlassVows x = parishOf("person a 5 9 50;person b 7 8 60;warms a 2;cools b 3;glass g a b 20 3;good k g 1 1;"
                + "damp 2 5;grace 3;");
        x.hours(3);
        x.wake(0);
        String before = stateOf(x);
        x.ends(0);
        x.lapses(0);
        x.soonest();
        x.watch(0, 60);
        x.waking(0);
        x.chosen(0);
        x.choices(0);
        x.play(0);
        x.playAt(0);
        x.steal(0, 30);
        x.parts(0);
        x.parted(0);
        x.law(1, 60);
        x.together(0, 60);
        x.banns(0);
        x.byteAt(0);
        x.odds(0, 30, 5);
        x.said(NONE);
        x.rolled(0);
        ringsOf(x, 0, 5);
        rollOf(x, "hour 60;a woos 3;", 0);
        x.image(0);
        due("all stays", stateOf(x), before);
        due("two acts can be undone", x.undo(), 1);
        GlassVows y = parishOf("person a 5 9 50;person b 7 8 60;person c 5 9 55;person d 7 8 60;glass g a b 20 3;"
                + "glass h d c 9 3;good k g 1 1;damp 2 5;grace 3;");
        y.hours(3);
        String answers = answersOf(y);
        due("a roll that is judged alone", rollOf(y, "hour 60;hour 60;", 0), NONE);
        due("asked again", answersOf(y), answers);
    }

    // ---- promises 17 to 19 ----

    private static void ends() {
        terms("ENDS: the first HOUR at whose beginning none are LEFT.");
        due("10 by 3", parishOf(COLD + "glass g a b 10 3;").ends(0), 4);
        due("9 by 3", parishOf(COLD + "glass g a b 9 3;").ends(0), 3);
        due("1 by 9", parishOf(COLD + "glass g a b 1 9;").ends(0), 1);
        due("250 by 1", parishOf(COLD + "glass g a b 250 1;").ends(0), 250);
        due("damp: 4, 2, 2, 4", parishOf(COLD + "glass g a b 12 4;damp 1 2;").ends(0), 4);
        due("damp: 4, 2, 2, 4, 1", parishOf(COLD + "glass g a b 13 4;damp 1 2;").ends(0), 5);
        GlassVows x = parishOf(COLD + "glass g a b 12 4;damp 1 2;");
        x.tilt(0, 1);
        due("aslant: 2, 1, 1, 2, 2, 2, 2", x.ends(0), 7);
        x.widen(0, 5);
        due("wider: 4, 2, 2, 4", x.ends(0), 4);
        promise(17, "ENDS: the HOUR (now: none are LEFT); NONE: not by HOUR 599, LAPSED, no such one.");
        GlassVows y = parishOf(UNFOND);
        live(y, 5);
        due("now", y.ends(0), 5);
        y.hours(1);
        due("now, an hour later", y.ends(0), 6);
        y.hours(1);
        due("lapsed", y.ends(0), NONE);
        due("in 599", heldUntil(500, 99, "").ends(0), 599);
        due("not in 600", heldUntil(500, 100, "").ends(0), NONE);
        GlassVows z = heldUntil(500, 99, "");
        live(z, 99);
        due("now, in 599", z.ends(0), 599);
        z.hours(1);
        due("all are over", z.ends(0), NONE);
        GlassVows w = heldUntil(0, 5, "");
        w.tilt(0, 2);
        due("level", w.ends(0), NONE);
        w.spill(0, 5);
        due("level, but none are left", w.ends(0), 0);
        for (int g : NO_GLASS) {
            due("ends(" + g + ")", w.ends(g), NONE);
        }
        due("an empty parish", new GlassVows().ends(0), NONE);
    }

    private static void lapses() {
        terms("LAPSES: the HOUR in which it does.");
        for (int grace = 1; grace <= 9; grace++) {
            due("grace " + grace, parishOf(COLD + "glass g a b 10 2;grace " + grace + ";").lapses(0), 4 + grace);
        }
        due("willing in the last hour of grace", parishOf("person a 6 7 50;person b 0 0 0;"
                + "glass g a b 10 2;").lapses(0), 13);
        due("not willing till an hour later", parishOf("person a 7 8 50;person b 0 0 0;glass g a b 10 2;").lapses(0),
                6);
        promise(18, "LAPSES: the HOUR; NONE: not by HOUR 599, it is LAPSED, no such one.");
        due("in 599", heldUntil(500, 99, "grace 1;").lapses(0), 599);
        due("in 599", heldUntil(500, 98, "grace 2;").lapses(0), 599);
        due("not in 600", heldUntil(500, 99, "grace 2;").lapses(0), NONE);
        due("not in 600", heldUntil(500, 100, "grace 1;").lapses(0), NONE);
        GlassVows x = parishOf(UNFOND);
        live(x, 6);
        due("now", x.lapses(0), 6);
        x.hours(1);
        due("it is lapsed", x.lapses(0), NONE);
        due("both always willing", parishOf(PAIR + "glass g a b 1 1;grace 1;").lapses(0), NONE);
        for (int g : NO_GLASS) {
            due("lapses(" + g + ")", parishOf(UNFOND).lapses(g), NONE);
        }
        due("an empty parish", new GlassVows().lapses(0), NONE);
        GlassVows y = parishOf("person a 5 6 50;person b 0 0 0;glass g a b 10 2;grace 1;");
        live(y, 5);
        due("awake now", y.lapses(0), 11);
        promise(19, "The GLASS that LAPSES soonest (of like ones the first); NONE: none does.");
        due("none", new GlassVows().soonest(), NONE);
        due("none does", parishOf(PAIR + "glass g a b 1 1;").soonest(), NONE);
        due("like ones", parishOf(COLDS + "glass g a b 4 2;glass h c d 4 2;").soonest(), 0);
        due("like hours", parishOf(COLDS + "glass g a b 3 2;glass h c d 4 2;").soonest(), 0);
        due("an hour sooner", parishOf(COLDS + "glass g a b 5 2;glass h c d 4 2;").soonest(), 1);
        GlassVows z = parishOf(EIGHT + "glass g a b 1 1;glass h c d 9 1;glass k e f 8 1;glass l i j 8 1;");
        due("the first", z.soonest(), 0);
        live(z, 3);
        due("it is lapsed: of like ones the first", z.soonest(), 2);
        live(z, 7);
        due("two more are lapsed", z.soonest(), 1);
        z.hours(1);
        due("all are lapsed", z.soonest(), NONE);
        due("in hour 599", heldUntil(500, 99, "grace 1;").soonest(), 0);
        due("not in hour 600", heldUntil(500, 99, "grace 2;").soonest(), NONE);
    }

    // ---- promises 20 and 21 ----

    private static void watch() {
        terms("one of the two may be WOKEN at the beginning of each HOUR in which none are LEFT and nobody is "
                + "WILLING, if he is so then");
        String asleep = "person a 20 21 50;person b 20 21 50;glass g a b 3 1;grace 1;";
        due("ends in 3: not yet", parishOf(asleep).watch(0, 3), 0);
        due("lapses in 3", parishOf(asleep).watch(0, 4), 1);
        due("not fond", parishOf(asleep + "wish 51;").watch(0, 4), NONE);
        due("not fond, not yet", parishOf(asleep + "wish 51;").watch(0, 3), 0);
        GlassVows second = parishOf("person a 20 21 49;person b 20 21 50;glass g a b 3 1;grace 1;");
        due("the second alone", second.watch(0, 4), 1);
        due("the second", second.waking(0), 31);
        GlassVows cooling = parishOf("person a 20 21 50;person b 20 21 0;cools a 1;glass g a b 24 1;grace 1;");
        due("fond in 23, not in 24", cooling.watch(0, 25), NONE);
        cooling.spill(0, 1);
        due("fond in 23", cooling.watch(0, 24), 1);
        GlassVows warming = parishOf("person a 20 21 49;person b 20 21 0;warms a 1;glass g a b 24 1;grace 1;");
        due("fond from 24 on", warming.watch(0, 25), 1);
        due("in 24", warming.waking(0), 240);
        terms("the fewest wakings by which it does not LAPSE in these HOURS; of like ones each as late as may be, "
                + "the first of the two ahead of the second.");
        GlassVows x = parishOf("person a 20 21 50;person b 20 21 50;glass g a b 3 1;grace 9;");
        due("8 hours may be waited", x.watch(0, 11), 0);
        due("in the ninth", x.watch(0, 12), 1);
        due("as late as may be, the first", x.waking(0), 110);
        due("then 3 hours of sand and 8 more", x.watch(0, 20), 1);
        due("awake at 20", x.watch(0, 32), 1);
        due("as late as may be", x.waking(0), 110);
        due("20, then 24 to 32", x.watch(0, 33), 2);
        due("as late as may be", x.waking(1), 320);
        due("44 is the ninth hour without sand: he is awake", x.watch(0, 60), 3);
        due("48 to 56", x.waking(2), 560);
        GlassVows y = parishOf("person a 1 2 50;person b 1 2 50;glass g a b 1 1;grace 1;");
        due("every other hour, but for 1, 25 and 49", y.watch(0, 60), 27);
        due("3 is the first", y.waking(0), 30);
        due("25 is in its hours", y.waking(11), 270);
        due("the last", y.waking(26), 590);
        due("none behind it", y.waking(27), NONE);
        GlassVows later = parishOf("person a 1 2 50;person b 1 2 50;glass g a b 1 1;grace 1;level;");
        later.tilt(0, 2);
        live(later, 100);
        later.tilt(0, 0);
        due("from 101 on every other hour, but for 121 and 145", later.watch(0, 60), 28);
        int[] laterDue = {1010, 1190, 1230, 1590};
        int[] laterAt = {0, 9, 10, 27};
        for (int i = 0; i < laterAt.length; i++) {
            due("waking(" + laterAt[i] + ")", later.waking(laterAt[i]), laterDue[i]);
        }
        GlassVows most = parishOf("person a 0 1 50;person b 0 1 50;glass g a b 1 1;grace 1;");
        due("30 is the most", most.watch(0, 60), 30);
        due("every other hour", most.waking(29), 590);
        promise(20, "WATCH for n (1 to 60) HOURS: how many wakings; NONE: it can't be, LAPSED, no such ones.");
        for (int n : new int[] {0, 61, -1, LEAST, MOST}) {
            due("watch(0, " + n + ")", x.watch(0, n), NONE);
        }
        for (int g : NO_GLASS) {
            due("watch(" + g + ", 1)", x.watch(g, 1), NONE);
        }
        due("it can't be", parishOf(UNFOND).watch(0, 7), NONE);
        due("it needs none", parishOf(UNFOND).watch(0, 6), 0);
        due("lapsed", lapsed().watch(0, 1), NONE);
        due("an empty parish", new GlassVows().watch(0, 1), NONE);
        GlassVows late = parishOf("person a 20 21 50;person b 20 21 50;glass g a b 24 1;grace 1;level;");
        late.tilt(0, 2);
        live(late, 575);
        late.tilt(0, 0);
        due("to hour 599, in which it ends", late.watch(0, 60), 1);
        due("in 599", late.waking(0), 5990);
        GlassVows over = heldUntil(590, 5, "grace 6;");
        live(over, 10);
        due("five of six hours are waited", over.glass(0, 7), 5);
        due("all are over: in no hour does it lapse", over.watch(0, 60), 0);
        waking();
    }

    private static void waking() {
        promise(21, "Its k-th waking (from 0): 10 times the HOUR, and 0 the first, 1 the second of the two, by the "
                + "latest watch() that was not NONE; NONE: none such, or ahead of any.");
        GlassVows x = parishOf("person a 20 21 50;person b 20 21 0;person c 0 0 50;person d 20 21 0;glass g b a 1 1;"
                + "glass h c d 1 1;grace 1;");
        due("ahead of any", x.waking(0), NONE);
        due("NONE", x.watch(0, 61), NONE);
        due("ahead of any still", x.waking(0), NONE);
        due("1, 3, 5", x.watch(0, 6), 3);
        int[] due = {11, 31, 51};
        for (int k = 0; k < 3; k++) {
            due("waking(" + k + ")", x.waking(k), due[k]);
        }
        for (int k : new int[] {3, -1, 60, LEAST, MOST}) {
            due("waking(" + k + ")", x.waking(k), NONE);
        }
        due("a watch of NONE", x.watch(2, 6), NONE);
        due("leaves it", x.waking(2), 51);
        x.image(0);
        x.hours(2);
        due("lapsed", x.watch(0, 6), NONE);
        due("leaves it", x.waking(2), 51);
        x.parish();
        x.restore(0);
        due("leaves it", x.waking(0), 11);
        due("a watch of none", x.watch(1, 60), 0);
        due("takes it away", x.waking(0), NONE);
    }

    // ---- promises 22 to 25 ----

    private static void chosen() {
        terms("CHOSEN: the most GRAINS (1 to 250) by which, if the GLASS had them, all LEFT now, at the HOUR where "
                + "it ENDS both are WILLING.");
        promise(22, "CHOSEN: how many GRAINS; NONE: by none, LAPSED, no such one.");
        due("250", parishOf(PAIR + "glass g a b 1 1;").chosen(0), 250);
        // by 9 an hour 250 end at 28, the rest 4; 244 to 250 do
        String[] hours = {"3 4", "4 5", "5 6"};
        int[] most = {243, 250, 45};
        int[] many = {18, 16, 9};
        for (int i = 0; i < hours.length; i++) {
            GlassVows x = parishOf("person a " + hours[i] + " 50;person b 0 0 99;glass g a b 7 9;");
            promise(22, "CHOSEN: how many GRAINS");
            due("chosen, awake from " + hours[i], x.chosen(0), most[i]);
            x.spill(0, 7);
            due("as many, though none are left now", x.chosen(0), most[i]);
            promise(23, "By how many GRAINS (of 1 to 250) it may be so; NONE: LAPSED, no such one.");
            due("choices, awake from " + hours[i], x.choices(0), many[i]);
        }
        GlassVows one = parishOf("person a 1 2 50;person b 0 0 50;glass g a b 99 1;cools b 1;");
        promise(22, "CHOSEN: how many GRAINS; NONE: by none, LAPSED, no such one.");
        due("1 alone, for b is not fond from 24 on", one.chosen(0), 1);
        due("by none", parishOf(UNFOND).chosen(0), NONE);
        due("one of them is not fond", parishOf("person a 0 0 99;person b 0 0 49;glass g a b 9 1;").chosen(0), NONE);
        due("never awake at once", parishOf("person a 0 12 99;person b 12 0 99;glass g a b 9 1;").chosen(0), NONE);
        due("lapsed", lapsed().chosen(0), NONE);
        GlassVows level = parishOf(PAIR + "glass g a b 1 1;level;");
        level.tilt(0, 2);
        due("level: it does not end", level.chosen(0), NONE);
        promise(23, "By how many GRAINS (of 1 to 250) it may be so; NONE: LAPSED, no such one.");
        due("1 alone", one.choices(0), 1);
        due("all", parishOf(PAIR + "glass g a b 1 1;").choices(0), 250);
        due("by none", parishOf(UNFOND).choices(0), 0);
        due("level", level.choices(0), 0);
        due("lapsed", lapsed().choices(0), NONE);
        GlassVows late = parishOf(PAIR + "glass g a b 1 3;");
        live(late, 597);
        due("ends in 598 or 599", late.choices(0), 6);
        late.hours(1);
        due("ends in 599", late.choices(0), 3);
        promise(22, "NONE: by none");
        due("ends in 599", late.chosen(0), 3);
        late.hours(1);
        due("ends in 600 at least", late.chosen(0), NONE);
        late.hours(1);
        due("all are over", late.chosen(0), NONE);
        promise(23, "NONE: LAPSED, no such one.");
        due("all are over", late.choices(0), 0);
        for (int g : NO_GLASS) {
            due("choices(" + g + ")", late.choices(g), NONE);
        }
        due("an empty parish", new GlassVows().choices(0), NONE);
        promise(22, "no such one.");
        for (int g : NO_GLASS) {
            due("chosen(" + g + ")", late.chosen(g), NONE);
        }
        due("an empty parish", new GlassVows().chosen(0), NONE);
        GlassVows woken = parishOf("person a 1 2 50;person b 2 3 50;glass g a b 9 1;");
        woken.wake(0);
        woken.wake(1);
        due("one grain at least: not now", woken.chosen(0), NONE);
    }

    private static void playDue(String what, GlassVows x, int who, int hour) {
        promise(24, "PLAY: the PERSON who turns it; NONE: nobody, it does not END, LAPSED, no such one.");
        due("play: " + what, x.play(0), who);
        promise(25, "In which HOUR he does; NONE: likewise.");
        due("playAt: " + what, x.playAt(0), hour);
    }

    private static void play() {
        terms("in the 'grace' HOURS from that on in which it ENDS, HOUR by HOUR, the first, then the second of the "
                + "two may turn it, if he is WILLING (FOND then as if it were not turned);"
                + " each leaves it to who may later: so the last of these turns it.");
        String twoHours = "glass g a b 2 1;";
        playDue("one hour: the second", parishOf(PAIR + twoHours + "grace 1;"), 1, 2);
        playDue("nine hours", parishOf(PAIR + twoHours + "grace 9;"), 1, 10);
        playDue("the glass tells who is the second", parishOf(PAIR + "glass g b a 2 1;grace 1;"), 0, 2);
        playDue("the second is not fond", parishOf("person a 0 0 50;person b 0 0 49;" + twoHours), 0, 3);
        playDue("the first of the hours alone", parishOf("person a 2 3 50;person b 0 0 0;" + twoHours + "grace 9;"),
                0, 2);
        playDue("the last of the hours", parishOf("person a 10 11 50;person b 2 3 99;" + twoHours + "grace 9;"), 0, 10);
        playDue("an hour too late", parishOf("person a 11 12 50;person b 0 0 0;" + twoHours + "grace 9;"), NONE, NONE);
        playDue("an hour too soon", parishOf("person a 1 2 50;person b 0 0 0;" + twoHours + "grace 9;"), NONE, NONE);
        playDue("fond from 24 on", parishOf("person a 0 0 49;person b 0 0 0;warms a 1;glass g a b 23 1;"), 0, 24);
        playDue("fond to 23", parishOf("person a 0 0 50;person b 0 0 0;cools a 1;glass g a b 23 1;"), 0, 23);
        GlassVows woken = parishOf("person a 5 6 50;person b 7 8 50;glass g a b 2 1;");
        woken.spill(0, 2);
        playDue("asleep now", woken, NONE, NONE);
        woken.wake(0);
        playDue("woken now", woken, 0, 0);
        woken.wake(1);
        playDue("both woken now", woken, 1, 0);
        GlassVows waiting = parishOf("person a 8 9 50;person b 0 0 0;glass g a b 10 2;grace 3;");
        live(waiting, 5);
        playDue("5, 6 and 7", waiting, NONE, NONE);
        waiting.hours(1);
        due("waited", waiting.glass(0, 7), 1);
        playDue("it ends now: 6, 7 and 8", waiting, 0, 8);
        playDue("nobody", parishOf(UNFOND), NONE, NONE);
        playDue("it does not end", heldUntil(500, 100, "wish 0;"), NONE, NONE);
        playDue("in 599 alone", heldUntil(500, 99, "wish 0;grace 9;"), 1, 599);
        playDue("lapsed", lapsed(), NONE, NONE);
        GlassVows x = parishOf(PAIR + twoHours);
        promise(24, "no such one.");
        for (int g : NO_GLASS) {
            due("play(" + g + ")", x.play(g), NONE);
        }
        due("an empty parish", new GlassVows().play(0), NONE);
        promise(25, "NONE: likewise.");
        for (int g : NO_GLASS) {
            due("playAt(" + g + ")", x.playAt(g), NONE);
        }
        due("an empty parish", new GlassVows().playAt(0), NONE);
    }

    // ---- promises 26 to 30 ----

    private static void steal() {
        terms("STEAL: the fewest GRAINS that must be SPILT now so that a GLASS is LAPSED at the beginning of HOUR h.");
        promise(26, "STEAL by HOUR h (0 to 600): how many; NONE: by none, LAPSED, h is past (now or ahead of it), no "
                + "such ones.");
        GlassVows x = parishOf(UNFOND);
        due("it lapses in 6", x.steal(0, 7), 0);
        due("an hour sooner", x.steal(0, 6), 2);
        due("by 3", x.steal(0, 3), 8);
        due("all of them", x.steal(0, 2), 10);
        due("by none", x.steal(0, 1), NONE);
        due("now", x.steal(0, 0), NONE);
        due("by 600", x.steal(0, 600), 0);
        for (int h : new int[] {601, -1, LEAST, MOST}) {
            due("steal(0, " + h + ")", x.steal(0, h), NONE);
        }
        for (int g : NO_GLASS) {
            due("steal(" + g + ", 600)", x.steal(g, 600), NONE);
        }
        due("an empty parish", new GlassVows().steal(0, 600), NONE);
        due("nothing is spilt", x.glass(0, 4), 10);
        live(x, 4);
        due("now", x.steal(0, 4), NONE);
        due("ahead of now", x.steal(0, 3), NONE);
        due("one hour is too few", x.steal(0, 5), NONE);
        due("the last two", x.steal(0, 6), 2);
        live(x, 2);
        due("one is waited already", x.steal(0, 7), 0);
        x.hours(1);
        due("lapsed", x.steal(0, 600), NONE);
        due("250", parishOf(COLD + "glass g a b 250 1;grace 1;").steal(0, 1), 250);
        due("willing ones always turn it", parishOf(PAIR + "glass g a b 9 1;grace 1;").steal(0, 600), NONE);
        // awake in 3 and 4 alone: it must end behind 4, or two hours ahead of 3
        GlassVows y = parishOf("person a 3 5 50;person b 0 0 0;glass g a b 4 1;grace 2;");
        due("turned in 4, ends in 9", y.steal(0, 11), 0);
        due("turned in 3, ends in 8", y.steal(0, 10), 1);
        due("by 9 it must end in 1", y.steal(0, 9), 3);
        due("by 3 likewise", y.steal(0, 3), 3);
        due("by 2 now", y.steal(0, 2), 4);
        due("in 599", heldUntil(500, 99, "grace 1;").steal(0, 600), 0);
        due("not by 599 without", heldUntil(500, 99, "grace 1;").steal(0, 599), 1);
        GlassVows z = heldUntil(599, 3, "grace 1;");
        due("in the last hour", z.steal(0, 600), 3);
        z.hours(1);
        due("all are over", z.steal(0, 600), NONE);
    }

    private static void goods() {
        terms("PARTS of a GLASS: each of its GOODS to one of the two, so that the lesser one of both sums (each by "
                + "what they are worth to him) is the greatest; of like ones the least GOODS of the first as bits.");
        String two = COLDS + "glass g a b 1 1;glass h c d 1 1;";
        partsDue("without goods", parishOf(two), 0, 0, 0);
        partsDue("one", parishOf(two + "good k g 9 9;"), 0, 0, 0);
        partsDue("the other has none", parishOf(two + "good k g 9 9;"), 1, 0, 0);
        partsDue("two alike", parishOf(two + "good k g 9 9;good l g 9 9;"), 0, 9, 1);
        partsDue("each what he values", parishOf(two + "good k g 1 99;good l g 99 1;"), 0, 99, 2);
        partsDue("nothing worth", parishOf(two + "good k g 0 0;good l g 0 0;"), 0, 0, 0);
        partsDue("the least bits, not the fewest", parishOf(two + "good k g 1 0;good l g 1 0;good m g 2 2;"), 0, 2, 3);
        String six = "good k g 99 99;good l h 99 99;good m g 99 99;good n g 99 99;good o g 99 99;good p h 1 1;";
        partsDue("four of six", parishOf(two + six), 0, 198, 5);
        partsDue("two of six", parishOf(two + six), 1, 1, 2);
        String all = "good k g 1 1;good l g 2 2;good m g 4 4;good n g 8 8;good o g 16 16;good p g 32 32;";
        partsDue("six", parishOf(two + all), 0, 31, 31);
        GlassVows x = parishOf(two + six);
        live(x, 5);
        due("lapsed", x.now(2), 3);
        partsDue("lapsed ones, too", x, 0, 198, 5);
        promise(27, "NONE: no such one.");
        for (int g : new int[] {2, 4, -1, LEAST, MOST}) {
            due("parts(" + g + ")", x.parts(g), NONE);
        }
        due("an empty parish", new GlassVows().parts(0), NONE);
        promise(28, "NONE: no such one.");
        for (int g : new int[] {2, 4, -1, LEAST, MOST}) {
            due("parted(" + g + ")", x.parted(g), NONE);
        }
        due("an empty parish", new GlassVows().parted(0), NONE);
        promise(29, "Of a GOOD: 0 its GLASS, 1 what it is worth to the first, 2 to the second of the two;"
                + " NONE: no such ones.");
        GlassVows y = parishOf(two + "good k h 0 99;good l g 99 0;");
        int[][] due = {{1, 0, 99}, {0, 99, 0}};
        for (int k = 0; k < 2; k++) {
            for (int what = 0; what < 3; what++) {
                due("good(" + k + ", " + what + ")", y.good(k, what), due[k][what]);
            }
        }
        for (int n : new int[] {2, 6, -1, LEAST, MOST}) {
            due("good(" + n + ", 0)", y.good(n, 0), NONE);
        }
        for (int n : new int[] {3, -1, LEAST, MOST}) {
            due("good(0, " + n + ")", y.good(0, n), NONE);
        }
        due("an empty parish", new GlassVows().good(0, 0), NONE);
    }

    private static void partsDue(String what, GlassVows x, int g, int sum, int bits) {
        promise(27, "PARTS of a GLASS: the lesser sum");
        due("parts: " + what, x.parts(g), sum);
        promise(28, "GOODS that the first of the two has by it, as bits");
        due("parted: " + what, x.parted(g), bits);
    }

    private static void law() {
        terms("LAW: the least 'grace' (1 to 9) by which none of some GLASSES LAPSES in n HOURS from now on.");
        promise(30, "LAW for some GLASSES (bits), n (1 to 60) HOURS; NONE: by none, one is LAPSED already, no such "
                + "ones.");
        GlassVows x = parishOf(UNFOND + "grace 9;");
        due("5 hours of sand", x.law(1, 5), 1);
        for (int n = 6; n <= 13; n++) {
            due(n + " hours", x.law(1, n), n - 4);
        }
        due("14 hours: by none", x.law(1, 14), NONE);
        due("60 hours: by none", x.law(1, 60), NONE);
        for (int n : new int[] {0, 61, -1, LEAST, MOST}) {
            due("law(1, " + n + ")", x.law(1, n), NONE);
            due("law(0, " + n + ")", x.law(0, n), NONE);
        }
        for (int set : new int[] {2, 3, 16, -1, LEAST, MOST}) {
            due("law(" + set + ", 1)", x.law(set, 1), NONE);
        }
        due("of none", x.law(0, 60), 1);
        due("grace is as it was", x.count(3), 9);
        live(x, 7);
        due("two are waited already, none more is", x.law(1, 1), 4);
        GlassVows y = parishOf(EIGHT + "glass g a b 9 1;glass h c d 8 1;glass k e f 60 1;glass l i j 250 1;");
        due("all four", y.law(15, 10), 3);
        due("the first alone", y.law(1, 10), 2);
        due("two of them", y.law(3, 10), 3);
        due("the last two", y.law(12, 60), 1);
        due("no fifth", y.law(16, 1), NONE);
        due("all and a fifth", y.law(31, 1), NONE);
        live(y, 10);
        due("the second is lapsed", y.now(2), 2);
        for (int set = 0; set < 16; set++) {
            if ((set & 2) != 0) {
                due("law(" + set + ", 1): one is lapsed already", y.law(set, 1), NONE);
            }
        }
        due("not the second", y.law(12, 1), 1);
        due("turned by who is willing", parishOf(PAIR + "glass g a b 1 1;").law(1, 60), 1);
        due("willing in the ninth hour", parishOf("person a 9 10 50;person b 0 0 0;glass g a b 1 1;").law(1, 10), 9);
        due("willing in the tenth hour", parishOf("person a 10 11 50;person b 0 0 0;glass g a b 1 1;").law(1, 11),
                NONE);
        GlassVows late = heldUntil(590, 9, "");
        due("to hour 599", late.law(1, 60), 2);
        due("judged alone", rollOf(late, "hour 10;", 0), NONE);
        due("to hour 599 still", late.law(1, 60), 2);
        live(late, 10);
        due("all are over", late.law(1, 60), 1);
        due("an empty parish", new GlassVows().law(0, 60), 1);
        due("an empty parish", new GlassVows().law(1, 60), NONE);
    }

    // ---- promises 31 to 34 ----

    private static void rings() {
        terms("RINGS of a GLASS by the tape (one byte: how many are LEFT): HOURS ago (0 to 24, as bits;"
                + " none ahead of HOUR 0) at whose beginning all GRAINS may have been LEFT, so that now as many are "
                + "as told, by its NECK and TILT of now and the damp.");
        GlassVows x = parishOf(COLD + "glass g a b 250 1;level;damp 3 3;");
        due("now, in hour 0", ringsOf(x, 0, 250), 1);
        due("not ahead of hour 0", ringsOf(x, 0, 249), 0);
        x.tilt(0, 2);
        due("level, in hour 0", ringsOf(x, 0, 250), 1);
        live(x, 24);
        due("level: all of 25", ringsOf(x, 0, 250), (1 << 25) - 1);
        due("level: nothing runs", ringsOf(x, 0, 249), 0);
        x.hours(1);
        due("not 25 hours ago", ringsOf(x, 0, 250), (1 << 25) - 1);
        x.tilt(0, 0);
        due("24 hours ago", ringsOf(x, 0, 226), 1 << 24);
        due("25 hours ago", ringsOf(x, 0, 225), 0);
        due("now", ringsOf(x, 0, 250), 1);
        GlassVows y = parishOf(PAIR + "glass g a b 20 8;damp 3 3;damp 5 5;");
        live(y, 5);
        // 8 in hour 4, 4 in hour 3, 8 in hours 2 to 0; the damp of now is not gone through yet
        due("an hour ago", ringsOf(y, 0, 12), 2);
        due("two hours ago", ringsOf(y, 0, 8), 4);
        due("three, four, five hours ago", ringsOf(y, 0, 0), 32 + 16 + 8);
        y.tilt(0, 1);
        due("aslant: 4, 2, 4, 4, 4", ringsOf(y, 0, 2), 32);
        due("two hours ago", ringsOf(y, 0, 14), 4);
        y.widen(0, 1);
        due("wider: 4, 2, 4, 4, 4", ringsOf(y, 0, 6), 16);
        due("as none may be", ringsOf(y, 0, 1), 0);
        due("more than there are", ringsOf(y, 0, 21), 0);
        due("255", ringsOf(y, 0, 255), 0);
        promise(31, "RINGS: HOURS ago, as bits; NONE: not as told, LAPSED, no such one.");
        y.end(0);
        due("no byte", y.rings(0), NONE);
        tell(y, "" + (char) 20 + (char) 20);
        due("two bytes", y.rings(0), NONE);
        due("the tape is empty", y.count(8), 0);
        y.feed(0, 0, 0, 0, 0);
        due("twenty bytes", y.rings(0), NONE);
        due("the tape is empty", y.count(8), 0);
        for (int g : NO_GLASS) {
            due("rings of " + g, ringsOf(y, g, 20), NONE);
            due("the tape is empty", y.count(8), 0);
        }
        due("lapsed", ringsOf(lapsed(), 0, 0), NONE);
        due("an empty parish", ringsOf(new GlassVows(), 0, 0), NONE);
    }

    private static void together() {
        promise(32, "In how many of n (1 to 60) HOURS from now on both of the two are AWAKE (by FROM and TO;"
                + " to HOUR 599); NONE: no such ones.");
        GlassVows x = parishOf("person a 22 3 0;person b 1 23 0;person c 0 0 99;person d 5 6 0;glass g a b 1 1;"
                + "glass h c d 1 1;");
        int[] sums = {0, 0, 1, 2, 2};
        for (int n = 1; n < sums.length; n++) {
            due("together(0, " + n + ")", x.together(0, n), sums[n]);
        }
        due("1, 2", x.together(0, 22), 2);
        due("1, 2 and 22", x.together(0, 23), 3);
        due("1, 2 and 22", x.together(0, 24), 3);
        due("60 hours", x.together(0, 60), 8);
        due("5", x.together(1, 5), 0);
        due("5", x.together(1, 6), 1);
        x.wake(3);
        due("not by waking", x.together(1, 1), 0);
        x.hours(5);
        due("lapsed", x.now(2), 1);
        due("lapsed ones, too", x.together(0, 24), 3);
        due("from now on", x.together(1, 1), 1);
        live(x, 590);
        due("22 of the last 5", x.together(0, 60), 1);
        live(x, 4);
        due("599 alone", x.together(1, 60), 0);
        x.hours(1);
        due("all are over", x.together(0, 60), 0);
        for (int n : new int[] {0, 61, -1, LEAST, MOST}) {
            due("together(0, " + n + ")", x.together(0, n), NONE);
        }
        for (int g : new int[] {2, 4, -1, LEAST, MOST}) {
            due("together(" + g + ", 1)", x.together(g, 1), NONE);
        }
        due("an empty parish", new GlassVows().together(0, 1), NONE);
        GlassVows last = parishOf(COLD + "glass g a b 1 1;");
        live(last, 599);
        due("the last hour", last.together(0, 60), 1);
    }

    private static void banns() {
        terms("BANNS of a GLASS: the NAMES of the two, ' and ' between them, then, if it is LAPSED, ' no more', else "
                + "' for ', as digits how many HOURS from now on till it ENDS; if it does not, ' for good'.");
        GlassVows x = parishOf("person z 0 0 0;person abcdefg 0 0 0;person aa 0 0 0;person zzzzzzz 0 0 0;"
                + "glass g z abcdefg 250 1;glass h zzzzzzz aa 100 1;level;");
        due("250", bannsOf(x, 0), "z and abcdefg for 250");
        due("100", bannsOf(x, 1), "zzzzzzz and aa for 100");
        x.hours(1);
        due("99", bannsOf(x, 1), "zzzzzzz and aa for 99");
        live(x, 89);
        due("10", bannsOf(x, 1), "zzzzzzz and aa for 10");
        x.hours(1);
        due("9", bannsOf(x, 1), "zzzzzzz and aa for 9");
        live(x, 9);
        due("none are left", bannsOf(x, 1), "zzzzzzz and aa for 0");
        x.hours(1);
        due("none are left still", bannsOf(x, 1), "zzzzzzz and aa for 0");
        x.hours(1);
        due("lapsed", bannsOf(x, 1), "zzzzzzz and aa no more");
        x.tilt(0, 2);
        due("level", bannsOf(x, 0), "z and abcdefg for good");
        due("in 599", bannsOf(heldUntil(500, 99, ""), 0), "a and b for 99");
        due("not in 600", bannsOf(heldUntil(500, 100, ""), 0), "a and b for good");
        promise(33, "BANNS: how many bytes; NONE: no such one.");
        due("21 bytes", x.banns(0), 22);
        due("bytes", x.banns(1), 22);
        due("the least", heldUntil(0, 1, "").banns(0), 13);
        for (int g : new int[] {2, 4, -1, LEAST, MOST}) {
            due("banns(" + g + ")", x.banns(g), NONE);
        }
        due("an empty parish", new GlassVows().banns(0), NONE);
        promise(34, "Byte i of the latest BANNS; NONE: none such.");
        due("the first, of the latest that were read", x.byteAt(0), 'z');
        due("the last", x.byteAt(21), 'e');
        for (int i : new int[] {22, 940, -1, LEAST, MOST}) {
            due("byteAt(" + i + ")", x.byteAt(i), NONE);
        }
        due("ahead of any", new GlassVows().byteAt(0), NONE);
        GlassVows y = heldUntil(0, 100, "");
        due("15 bytes", y.banns(0), 15);
        y.hours(1);
        due("as they were read", y.byteAt(14), '0');
        due("14 bytes", y.banns(0), 14);
        due("none of the longer ones", y.byteAt(14), NONE);
        y.parish();
        due("they stay in another parish", y.byteAt(13), '9');
    }

    // ---- promises 35 and 36 ----

    /** The document's DRAWN, by the acts of the face. */
    private static void drawByHand(GlassVows x, int hours, int seed) {
        int[] state = {seed};
        for (int h = 0; h < hours; h++) {
            for (int p = 0; p < x.count(0); p++) {
                int what = draw(state, 12);
                if (what == 0) {
                    x.woo(p, draw(state, 10) + 1);
                } else if (what == 1) {
                    x.turn(p);
                } else if (what == 2) {
                    x.wake(p);
                }
            }
            for (int g = 0; g < x.count(1); g++) {
                if (draw(state, 30) == 0) {
                    x.spill(g, draw(state, 20) + 1);
                }
            }
            x.hours(1);
        }
    }

    private static int draw(int[] state, int n) {
        state[0] = state[0] * 1103515245 + 12345;
        return (state[0] >>> 8) % n;
    }

    private static void drawn() {
        terms("for each draw of n x becomes x * 1103515245 + 12345 (an int, wrapping), the draw is (x >>> 8) % n: "
                + "each HOUR: PERSON by PERSON: a draw of 12: 0: a draw of 10: he woos by 1 more than that, if he "
                + "can; 1: he turns, if he can; 2: he is WOKEN, if he can; then GLASS by GLASS: a draw of 30: 0: a "
                + "draw of 20: 1 more than that is SPILT, if it can; then the HOUR.");
        String text = "person a 5 20 40;person b 0 0 30;person c 7 9 45;person d 3 4 49;person e 0 0 0;"
                + "glass g a b 12 5;glass h d c 40 2;early;warms a 3;grace 3;";
        for (int seed : new int[] {0, 1, -1, LEAST, MOST, 77, 4242, -987654321}) {
            GlassVows x = parishOf(text);
            GlassVows y = parishOf(text);
            due("drawn(24, " + seed + ")", x.drawn(24, seed), 24);
            drawByHand(y, 24, seed);
            due("seed " + seed, stateOf(x), stateOf(y));
        }
        promise(35, "n (1 to 60) HOURS DRAWN by a seed: how many went by; NONE: not as told, no PERSONS.");
        GlassVows x = parishOf("person a 0 0 0;");
        for (int n : new int[] {0, 61, -1, LEAST, MOST}) {
            due("drawn(" + n + ", 1)", x.drawn(n, 1), NONE);
        }
        due("no persons", new GlassVows().drawn(1, 1), NONE);
        due("no persons, but damp", parishOf("damp 1 2;").drawn(60, 1), NONE);
        due("no glasses", x.drawn(1, 1), 1);
        due("60", x.drawn(60, LEAST), 60);
        live(x, 530);
        due("9 of 60", x.drawn(60, MOST), 9);
        due("600", x.now(0), 600);
        due("none of 60", x.drawn(60, 1), 0);
        due("61 behind the last", x.drawn(61, 1), NONE);
        x.undo();
        due("591", x.now(0), 591);
        due("9 of 9", x.drawn(9, 1), 9);
        promise(36, "Of n (1 to 30) seeds x, x and 1, .. by how many a GLASS is not LAPSED behind 48 HOURS DRAWN "
                + "from now on; NONE: no such ones.");
        odds();
    }

    private static void odds() {
        GlassVows x = parishOf("person a 0 0 30;person b 0 0 30;person c 0 0 0;person d 0 0 0;glass g a b 40 1;"
                + "glass h c d 1 1;grace 3;");
        int sum = 0;
        for (int k = 0; k < 30; k++) {
            x.drawn(48, MOST - 14 + k);
            sum += 1 - x.glass(0, 6);
            x.undo();
        }
        String before = stateOf(x);
        due("30 seeds that wrap around", x.odds(0, 30, MOST - 14), sum);
        due("by the most and the least", x.odds(0, 2, MOST), x.odds(0, 1, MOST) + x.odds(0, 1, LEAST));
        due("some, not all", sum > 0 && sum < 30, true);
        due("1 or 0", x.odds(0, 1, 1) >> 1, 0);
        for (int n : new int[] {0, 31, -1, LEAST, MOST}) {
            due("odds(0, " + n + ", 1)", x.odds(0, n, 1), NONE);
        }
        for (int g : new int[] {2, 4, -1, LEAST, MOST}) {
            due("odds(" + g + ", 1, 1)", x.odds(g, 1, 1), NONE);
        }
        due("an empty parish", new GlassVows().odds(0, 1, 1), NONE);
        due("all stays", stateOf(x), before);
        due("nothing to undo", x.undo(), NONE);
        x.hours(4);
        due("lapsed", x.glass(1, 6), 1);
        due("lapsed already", x.odds(1, 30, 5), 0);
        String unturned = "person a 0 1 0;person b 0 1 0;glass g a b ";
        due("it lapses in the 48th hour, or sooner", parishOf(unturned + "46 1;").odds(0, 30, 1), 0);
        due("it lapses in the 49th, if none is spilt", parishOf(unturned + "47 1;").odds(0, 30, 1) > 0, true);
        GlassVows late = parishOf(COLD + "glass g a b 250 1;wish 99;level;");
        late.tilt(0, 2);
        live(late, 590);
        due("the hours that are left", late.odds(0, 30, 1), 30);
        live(late, 10);
        due("all are over", late.odds(0, 30, 1), 30);
    }

    // ---- promises 37 to 40 ----

    private static void roll() {
        promise(37, "The tape is a ROLL: it is judged, all staying as it is (lives 0), or lived as far as it is not "
                + "WRONG (1): the LINE that is WRONG; NONE: none; -2 less the place of a FAULT;"
                + " -1000: another lives (the tape stays).");
        GlassVows x = parishOf(UNFOND);
        String before = stateOf(x);
        tell(x, "hour 3;g spills 1;a turns;hour 1;");
        for (int lives : new int[] {2, -1, LEAST, MOST}) {
            due("roll(" + lives + ")", x.roll(lives), -1000);
            due("the tape stays", x.count(8), 33);
        }
        due("judged: the third", x.roll(0), 2);
        due("the tape is empty", x.count(8), 0);
        due("all stays", stateOf(x), before);
        due("nothing to undo", x.undo(), NONE);
        due("lived: the third", rollOf(x, "hour 3;g spills 1;a turns;hour 1;", 1), 2);
        due("as far as that", x.now(0) * 10 + x.glass(0, 4), 33);
        due("undone at once", x.undo(), 0);
        due("all as it was", stateOf(x), before);
        due("the first", rollOf(x, "a turns;hour 1;", 1), 0);
        due("all as it was", stateOf(x), before);
        due("none", rollOf(x, "hour 1;", 1), NONE);
        due("lived", x.now(0), 1);
        due("without lines", rollOf(x, "", 0), NONE);
        due("place 0", rollOf(x, ".", 1), -2);
        due("place 400", rollOf(x, " ".repeat(401), 1), -402);
        due("the 40th", rollOf(x, "hour 1;".repeat(39) + "a wakes;", 0), 39);
        due("the tape is empty", x.count(8), 0);
        due("an empty parish", new GlassVows().roll(1), NONE);
        GlassVows y = new GlassVows();
        due("hours of an empty parish", rollOf(y, "hour 60;", 1), NONE);
        due("they went", y.now(0), 60);
        due("without persons no name is told", rollOf(y, "a turns;", 1), -2);
    }

    private static void whyDue(GlassVows x, String roll, int why) {
        rollOf(x, roll, 0);
        due("rolled(0) of " + roll, x.rolled(0), why);
    }

    private static void rolled() {
        promise(38, "0 why it was WRONG (0: it was not; as for turning, 10 more as for waking, 20 for wooing, 30 for "
                + "tilting, 40 for widening, 50 for spilling; 61: fewer HOURS are left), 1 LINES that are not, 2 the "
                + "HOUR then, 3 who is LAPSED then, as bits. NONE: another what, or ahead of any.");
        GlassVows x = parishOf("person a 5 6 50;person b 0 0 0;person c 5 6 0;glass g a b 10 5;");
        for (int what = 0; what < 4; what++) {
            due("ahead of any", x.rolled(what), NONE);
        }
        x.roll(2);
        rollOf(x, "hour", 1);
        due("ahead of any without a FAULT", x.rolled(0), NONE);
        String[] rolls = {"c turns", "a turns", "b turns", "b wakes", "c woos 1", "a woos 1", "g tilts 0", "g tilts 2",
            "g widens 5", "g spills 11", "hour 4;b turns", "hour 4;b woos 1", "hour 4;g tilts 0", "hour 4;g widens 5",
            "hour 4;g spills 1", "hour 5;a wakes"};
        int[] whys = {1, 2, 3, 11, 21, 22, 32, 33, 42, 52, 1, 21, 31, 41, 51, 11};
        for (int i = 0; i < rolls.length; i++) {
            whyDue(x, rolls[i] + ";", whys[i]);
        }
        GlassVows early = parishOf("person a 5 6 50;person b 0 0 0;glass g a b 10 5;early;");
        whyDue(early, "b turns;", 4);
        whyDue(early, "hour 1;b turns;", 0);
        GlassVows y = parishOf(UNFOND);
        live(y, 540);
        whyDue(y, "hour 60;", 0);
        due("600", y.rolled(2), 600);
        whyDue(y, "hour 60;hour 1;", 61);
        due("one line is not", y.rolled(1), 1);
        whyDue(y, "hour 1;hour 60;hour 1;", 61);
        due("541", y.rolled(2), 541);
        GlassVows z = parishOf(EIGHT + "glass g a b 5 1;glass h c d 250 1;glass k e f 250 1;glass l i j 1 1;");
        due("lived", rollOf(z, "hour 3;hour 4;l tilts 1;hour 1;", 1), 2);
        int[] due = {31, 2, 7, 9};
        for (int what = 0; what < 4; what++) {
            due("rolled(" + what + ")", z.rolled(what), due[what]);
        }
        z.hours(1);
        due("the hour then, not now", z.rolled(2), 7);
        due("-1000", z.roll(2), -1000);
        due("a FAULT", rollOf(z, "hour 0;", 1), -7);
        z.image(0);
        z.parish();
        z.restore(0);
        for (int what = 0; what < 4; what++) {
            due("rolled(" + what + ") stays", z.rolled(what), due[what]);
        }
        for (int what : new int[] {4, -1, LEAST, MOST}) {
            due("rolled(" + what + ")", z.rolled(what), NONE);
        }
        rollOf(z, "", 0);
        int[] empty = {0, 0, 8, 9};
        for (int what = 0; what < 4; what++) {
            due("rolled(" + what + ") of a roll without lines", z.rolled(what), empty[what]);
        }
    }

    private static void sentence() {
        promise(39, "The tape is the SENTENCE now: how many ONES (each not, bracket and other one);"
                + " -1 less the place of a FAULT: it stays.");
        GlassVows x = parishOf(UNFOND);
        due("one", sentenceOf(x, "run"), 1);
        due("not and bracket", sentenceOf(x, "not(not run)"), 4);
        due("20", sentenceOf(x, "run" + " and run".repeat(19)), 20);
        due("an empty text: place 0", sentenceOf(x, ""), -1);
        due("place 200", sentenceOf(x, " ".repeat(201)), -201);
        due("it stays", x.said(NONE), 0);
        due("a sentence", sentenceOf(x, "number=0"), 1);
        due("the tape is empty", x.count(8), 0);
        due("a fault", sentenceOf(x, "number=1 or"), -12);
        due("it stays", x.said(0), 0);
        tell(x, "early;early;");
        x.parish();
        due("it stays, if the parish does", x.said(0), 0);
        promise(40, "GLASSES of which it may be said: how many (k NONE), or the k-th. NONE: there is no SENTENCE, "
                + "none such.");
        GlassVows y = parishOf(EIGHT + "glass g a b 5 1;glass h c d 250 1;glass k e f 250 1;glass l i j 1 1;");
        for (int k : new int[] {-1, 0, 1}) {
            due("no sentence: said(" + k + ")", y.said(k), NONE);
        }
        sentenceOf(y, "run run");
        due("no sentence still", y.said(NONE), NONE);
        sentenceOf(y, "left<6");
        due("two", y.said(NONE), 2);
        due("the first", y.said(0), 0);
        due("the second", y.said(1), 3);
        for (int k : new int[] {2, 4, -2, LEAST, MOST}) {
            due("said(" + k + ")", y.said(k), NONE);
        }
        due("all", saidBy(y, "number<4"), 15);
        due("the fourth", y.said(3), 3);
        due("none", saidBy(y, "number>3"), 0);
        due("none", y.said(NONE), 0);
        due("none such", y.said(0), NONE);
        GlassVows empty = new GlassVows();
        due("of no glasses", sentenceOf(empty, "run or not run"), 3);
        due("none", empty.said(NONE), 0);
        due("none such", empty.said(0), NONE);
        tell(y, COLD + "glass g a b 5 1;");
        y.parish();
        due("a new parish has none", y.said(NONE), NONE);
        sayings();
    }

    private static void sayings() {
        terms("'lapsed' | 'run' (no sand is left above) | 'aslant' (tilted, not level) | 'both' (both are AWAKE now) "
                + "| 'of' PERSON (one of the two)");
        GlassVows x = parishOf("person a 0 0 50;person b 5 6 0;person c 0 0 0;person d 0 0 0;person e 0 0 0;"
                + "person f 0 0 0;person i 0 0 0;person j 0 0 0;glass g a b 2 1;glass h d c 1 1;glass k e f 250 9;"
                + "level;");
        x.tilt(2, 1);
        x.hours(2);
        due("none is lapsed yet", saidBy(x, "lapsed"), 0);
        due("run", saidBy(x, "run"), 3);
        x.hours(1);
        due("lapsed", saidBy(x, "lapsed"), 2);
        due("run, lapsed or not", saidBy(x, "run"), 2);
        due("aslant", saidBy(x, "aslant"), 4);
        x.tilt(2, 2);
        due("level is not aslant", saidBy(x, "aslant"), 0);
        due("both", saidBy(x, "both"), 6);
        x.wake(1);
        due("both, one woken", saidBy(x, "both"), 7);
        x.hours(1);
        due("not any more", saidBy(x, "both"), 6);
        due("the first", saidBy(x, "of d"), 2);
        due("the second", saidBy(x, "of c"), 2);
        due("not wed", saidBy(x, "of i"), 0);
        terms("( 'left' | 'neck' | 'turned' | 'number' ) SIGN NUMBER (how often it was turned so far;"
                + " its number). SIGN: < = >.");
        due("left", x.glass(0, 4) * 1000 + x.glass(2, 4), 1238);
        due("below", saidBy(x, "left<238"), 3);
        due("below one more", saidBy(x, "left<239"), 7);
        due("as many", saidBy(x, "left=238"), 4);
        due("above", saidBy(x, "left>238"), 0);
        due("above one less", saidBy(x, "left>237"), 4);
        due("below none", saidBy(x, "left<0"), 0);
        due("none", saidBy(x, "left=0"), 2);
        due("below the most", saidBy(x, "left<999"), 7);
        due("neck", saidBy(x, "neck=9"), 4);
        due("neck", saidBy(x, "neck<9"), 3);
        due("neck", saidBy(x, "neck>1"), 4);
        due("turned", saidBy(x, "turned=1"), 1);
        due("turned", saidBy(x, "turned<1"), 6);
        due("turned", saidBy(x, "turned>0"), 1);
        due("number", saidBy(x, "number=0"), 1);
        due("number", saidBy(x, "number>1"), 4);
        due("number", saidBy(x, "number<1"), 1);
        terms("COND: ALL { 'or' ALL }. ALL: ONE { 'and' ONE }.");
        due("'and' first", saidBy(x, "number=0 or number=1 and number=2"), 1);
        due("'and' first", saidBy(x, "number=0 and number=1 or number=2"), 4);
        due("brackets first", saidBy(x, "(number=0 or number=1) and number=1"), 2);
        due("'not' of one", saidBy(x, "not number=0 and number<2"), 2);
        due("'not' of one", saidBy(x, "not number=0 or number=0"), 7);
        due("'not' of a bracket", saidBy(x, "not (number=0 or number=1)"), 4);
        due("eight within", saidBy(x, "not(not(not(not number=1)))"), 2);
        due("seven nots", saidBy(x, "not ".repeat(7) + "number=1"), 5);
        due("20 ones", saidBy(x, "number=1" + " or number=9".repeat(15) + " or number=2"), 6);
        due("20 ones, all so", saidBy(x, "run or run" + " and number<9".repeat(11)), 2);
    }

    // ---- promises 41 to 43 ----

    private static void image() {
        promise(41, "PARISH, all that is so and the SENTENCE are kept in place k (0, 1): true; false: no such one.");
        GlassVows x = parishOf("person a 5 6 50;person b 0 0 9;glass g a b 10 5;good k g 3 4;damp 1 2;early;level;"
                + "grace 9;wish 7;warms b 3;cools a 2;");
        for (int k : new int[] {2, -1, LEAST, MOST}) {
            due("image(" + k + ")", x.image(k), false);
        }
        sentenceOf(x, "number=0");
        x.tilt(0, 1);
        x.widen(0, 2);
        live(x, 30);
        x.wake(0);
        String first = answersOf(x);
        due("kept", x.image(0), true);
        tell(x, UNFOND);
        x.parish();
        live(x, 6);
        String second = stateOf(x);
        due("kept", x.image(1), true);
        x.parish();
        promise(42, "They are as kept in place k (the tape, and what other calls told last, stays;"
                + " nothing can be undone): true; false: no such one, or nothing is kept there.");
        due("restored", x.restore(0), true);
        due("all as kept", answersOf(x), first);
        due("its goods", x.good(0, 2), 4);
        due("its sentence", x.said(0), 0);
        due("its names", rollOf(x, "a woos 1;b woos 1;", 0), NONE);
        due("restored", x.restore(1), true);
        due("all as kept", stateOf(x), second);
        due("without a sentence", x.said(NONE), NONE);
        due("its lapsing", x.lapses(0), 6);
        x.hours(1);
        due("again", x.restore(1), true);
        due("all as kept still", stateOf(x), second);
        due("kept anew", x.image(0), true);
        x.hours(1);
        x.restore(0);
        due("the later one", stateOf(x), second);
        fullImage();
        restored();
    }

    /** What is kept is kept of all of eight persons and four glasses. */
    private static void fullImage() {
        GlassVows x = parishOf(EIGHT + "glass g a b 9 1;glass h c d 9 1;glass k e f 9 1;glass l i j 9 1;early;"
                + "good m l 1 2;wish 2;");
        x.hours(2);
        x.woo(7, 3);
        x.woo(6, 4);
        x.turn(7);
        x.tilt(3, 1);
        x.hours(1);
        String kept = stateOf(x);
        String banns = bannsOf(x, 3);
        x.image(1);
        x.parish();
        due("restored", x.restore(1), true);
        due("all as kept", stateOf(x), kept);
        due("the names, too", bannsOf(x, 3), banns);
        due("the goods, too", x.good(0, 2), 2);
    }

    private static void restored() {
        GlassVows x = new GlassVows();
        for (int k : new int[] {0, 1, 2, -1, LEAST, MOST}) {
            due("restore(" + k + "), nothing kept", x.restore(k), false);
        }
        promise(41, "PARISH, all that is so and the SENTENCE are kept in place k (0, 1): true");
        due("an empty parish is kept", x.image(1), true);
        promise(42, "false: no such one, or nothing is kept there.");
        due("not there", x.restore(0), false);
        tell(x, "person a 20 21 50;person b 20 21 50;glass g a b 1 1;");
        x.parish();
        x.watch(0, 60);
        x.banns(0);
        rollOf(x, "hour 2;a turns;", 0);
        sentenceOf(x, "of zed");
        x.hours(1);
        due("refused", x.restore(2), false);
        due("what is refused leaves all", x.undo(), 0);
        x.hours(1);
        tell(x, "abc");
        promise(42, "(the tape, and what other calls told last, stays; nothing can be undone)");
        due("restored", x.restore(1), true);
        due("the tape", x.count(8), 3);
        due("the fault", x.fault(), 3);
        due("the banns", x.byteAt(0), 'a');
        due("the watch", x.waking(0), 20);
        due("the roll", x.rolled(0), 2);
        due("nothing can be undone", x.undo(), NONE);
        due("an empty parish", stateOf(x), "0 0 0 2 50 0 0 0 0 0 0 0 0 0 ");
        due("no sentence", x.said(NONE), NONE);
    }

    private static void count() {
        promise(43, "0 PERSONS, 1 GLASSES, 2 GOODS, 3 'grace', 4 'wish', 5 'early' (1, 0), 6 'level' (1, 0), 7 "
                + "'damp', 8 bytes of the tape. NONE for another what.");
        GlassVows x = parishOf(EIGHT + "glass g a b 5 1;glass h c d 250 1;glass k e f 250 1;glass l i j 1 1;damp 1 1;"
                + "damp 1 1;damp 1 1;damp 1 1;damp 1 1;damp 1 1;good m g 1 1;good n g 1 1;good o g 1 1;good p g 1 1;"
                + "good q g 1 1;good r g 1 1;grace 9;wish 0;early;level;");
        int[] full = {8, 4, 6, 9, 0, 1, 1, 6, 0};
        int[] empty = {0, 0, 0, 2, 50, 0, 0, 0, 0};
        GlassVows y = new GlassVows();
        for (int what = 0; what < 9; what++) {
            due("count(" + what + ") of all", x.count(what), full[what]);
            due("count(" + what + ") of none", y.count(what), empty[what]);
        }
        for (int what : new int[] {9, -1, LEAST, MOST}) {
            due("count(" + what + ")", x.count(what), NONE);
        }
        x.feed(0, 0, 0, 0, 0);
        due("20", x.count(8), 20);
        x.end(7);
        due("7", x.count(8), 7);
        x.parish();
        due("0", x.count(8), 0);
    }

    public static void main(String[] args) {
        nothingIsDone();
        ends();
        lapses();
        watch();
        chosen();
        play();
        steal();
        goods();
        law();
        rings();
        together();
        banns();
        drawn();
        roll();
        rolled();
        sentence();
        image();
        count();
        quotesAreDue(17, 43);
        finish("AskBoundaryChecks");
    }
}
