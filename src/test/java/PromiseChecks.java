/** At least one check for each promise of the document: ordinary inputs, its edges, and wrong inputs. */
public final class PromiseChecks extends Checking {
    private static final String PARISH = "person ann 6 22 60;person bob 8 23 40;person cal 0 0 70;"
            + "person dot 20 4 80;warms bob 5;cools cal 3;glass vow ann bob 30 4;glass oath cal dot 10 1;"
            + "damp 5 9;good cow vow 9 4;good pot vow 3 3;good bed vow 5 8;wish 50;grace 2;level;";

    /** A parish that was told, then a FAULT: the place and the kind. */
    private static void faultOfParish(String text, int place, int kind) {
        GlassVows x = parishOf("person kept 1 2 3;");
        tell(x, text);
        due("parish() of " + text, x.parish(), -1 - place);
        due("fault() of " + text, x.fault(), kind);
        due("count(0): the parish stays", x.count(0), 1);
        due("count(8): the tape is empty", x.count(8), 0);
    }

    private static void faultOfRoll(String text, int place, int kind) {
        GlassVows x = parishOf(PARISH);
        tell(x, text);
        due("roll(1) of " + text, x.roll(1), -2 - place);
        due("fault() of " + text, x.fault(), kind);
        due("nothing is lived", x.now(0) + x.now(4), 0);
        due("nothing can be undone", x.undo(), NONE);
        due("nothing is told of it", x.rolled(0), NONE);
        due("count(8): the tape is empty", x.count(8), 0);
    }

    private static void faultOfSentence(String text, int place, int kind) {
        GlassVows x = parishOf(PARISH);
        tell(x, "number=1");
        due("sentence()", x.sentence(), 1);
        tell(x, text);
        due("sentence() of " + text, x.sentence(), -1 - place);
        due("fault() of " + text, x.fault(), kind);
        due("said(0): the sentence stays", x.said(0), 1);
        due("count(8): the tape is empty", x.count(8), 0);
    }

    private static void bannsDue(GlassVows x, int g, String want) {
        promise(33);
        due("banns(" + g + ")", bannsOf(x, g), want);
    }

    private static void aNewObject() {
        promise(1);
        GlassVows x = new GlassVows();
        int[] want = {0, 0, 0, 2, 50, 0, 0, 0, 0};
        for (int what = 0; what < want.length; what++) {
            due("count(" + what + ")", x.count(what), want[what]);
        }
        for (int what = 0; what < 6; what++) {
            due("now(" + what + ")", x.now(what), 0);
        }
        due("said(NONE)", x.said(NONE), NONE);
        due("fault()", x.fault(), 0);
    }

    private static void feedAndEnd() {
        promise(2);
        GlassVows x = new GlassVows();
        due("feed", x.feed(0x67726163, 0x65203734, 0x3b000000, 0, 0), 20);
        for (int n = 40; n <= 940; n += 20) {
            due("feed to " + n, x.feed(0, -1, Integer.MIN_VALUE, 1, 0), n);
        }
        due("feed above 940", x.feed(0, 0, 0, 0, 0), NONE);
        due("none came", x.count(8), 940);
        promise(3);
        due("end(941)", x.end(941), false);
        due("end(-1)", x.end(-1), false);
        due("end(MIN)", x.end(Integer.MIN_VALUE), false);
        due("count(8)", x.count(8), 940);
        due("end(940)", x.end(940), true);
        due("end(921)", x.end(921), true);
        promise(2);
        due("feed would be 941", x.feed(0, 0, 0, 0, 0), NONE);
        promise(3);
        due("end(8)", x.end(8), true);
        due("end(9)", x.end(9), false);
        promise(2);
        due("the highest byte is first", x.feed(0x3b202020, 0x20202020, 0x20202020, 0x20202020, 0x20202020), 28);
        due("parish() of 'grace 74;': a number that is not as told", x.parish(), -7);
        x.feed(0x67726163, 0x6520373b, 0, 0, 0);
        promise(3);
        due("end(8)", x.end(8), true);
        due("parish() of 'grace 7;'", x.parish(), 1);
        due("count(3)", x.count(3), 7);
        due("end(0) of an empty tape", x.end(0), true);
        due("end(1) of an empty tape", x.end(1), false);
    }

    private static void parishes() {
        promise(4);
        GlassVows x = parishOf(PARISH);
        String text = "person a 0 23 0;\n person b 23 0 99 ; glass g b a 250 9;";
        tell(x, text + "glassy");
        x.end(text.length());
        due("LINES", x.parish(), 3);
        due("the tape is empty", x.count(8), 0);
        due("fond", x.person(1, 1), 99);
        due("the first", x.glass(0, 0), 1);
        due("'wish' without", x.count(4), 50);
        due("'grace' without", x.count(3), 2);
        due("'level' without", x.count(6), 0);
        x.hours(5);
        due("an empty text", x.parish(), 0);
        due("no persons", x.count(0), 0);
        due("hour 0", x.now(0), 0);
        due("nothing can be undone", x.undo(), NONE);
        tell(x, "damp 0 0;damp 599 599;damp 1 2;damp 1 2;damp 3 599;damp 0 599;early;wish 0;level;grace 9;");
        due("laws", x.parish(), 10);
        due("early", x.count(5), 1);
        due("level", x.count(6), 1);
        due("damps", x.count(7), 6);
        faultsOfTokens();
        faultsOfNumbers();
        faultsOfNames();
        faultsOfSorts();
        faultsOfLength();
        aNewParish();
    }

    private static void faultsOfTokens() {
        promise(4);
        faultOfParish("x", 0, 1);
        faultOfParish(" ;", 1, 1);
        faultOfParish("early", 5, 1);
        faultOfParish("early  ", 7, 1);
        faultOfParish("early level;", 6, 1);
        faultOfParish("early;hour 3;", 6, 1);
        faultOfParish("early;.", 6, 1);
        faultOfParish("earlyx;", 0, 1);
        faultOfParish("early1;", 0, 1);
        faultOfParish("early\t;", 5, 1);
        faultOfParish("early" + (char) 255 + ";", 5, 1);
        faultOfParish("Early;", 0, 1);
        faultOfParish("person abcdefgh 1 2 3;", 7, 1);
        faultOfParish("person a1 1 2 3;", 7, 1);
        faultOfParish("person 1 1 2 3;", 7, 1);
        faultOfParish("person a b 2 3;", 9, 1);
        faultOfParish("person a 1 2;", 12, 1);
        faultOfParish("person a 1 2 1000;", 13, 1);
        faultOfParish("person a 1 2 3x;", 13, 1);
        faultOfParish("person a 1 2 3", 14, 1);
        faultOfParish("person a 1 2 3 4;", 15, 1);
        for (String word : new String[] {"person", "warms", "cools", "glass", "damp", "good", "grace", "wish", "early",
            "level", "turns", "wakes", "woos", "tilts", "widens", "spills", "hour", "or", "and", "not", "lapsed", "run",
            "aslant", "both", "of", "left", "neck", "turned", "number"}) {
            faultOfParish("person " + word + " 1 2 3;", 7, 1);
        }
        faultOfParish("warms early 3;", 6, 1);
    }

    private static void faultsOfNumbers() {
        faultOfParish("person a 24 2 3;", 9, 2);
        faultOfParish("person a 0 24 3;", 11, 2);
        faultOfParish("person a 0 0 100;", 13, 2);
        faultOfParish("person a 0 0 0;warms a 0;", 23, 2);
        faultOfParish("person a 0 0 0;cools a 10;", 23, 2);
        String two = "person a 0 0 0;person b 0 0 0;";
        faultOfParish(two + "glass g a b 0 1;", 42, 2);
        faultOfParish(two + "glass g a b 251 1;", 42, 2);
        faultOfParish(two + "glass g a b 250 0;", 46, 2);
        faultOfParish(two + "glass g a b 250 10;", 46, 2);
        faultOfParish(two + "glass g a b 1 1;good k g 100 0;", 55, 2);
        faultOfParish(two + "glass g a b 1 1;good k g 99 100;", 58, 2);
        faultOfParish("damp 600 600;", 5, 2);
        faultOfParish("damp 5 4;", 7, 2);
        faultOfParish("damp 5 600;", 7, 2);
        faultOfParish("grace 0;", 6, 2);
        faultOfParish("grace 10;", 6, 2);
        faultOfParish("wish 100;", 5, 2);
    }

    private static void faultsOfNames() {
        String two = "person a 0 0 0;person b 0 0 0;";
        faultOfParish("person a 0 0 0;person a 0 0 0;", 22, 3);
        faultOfParish("warms a 1;", 6, 3);
        faultOfParish(two + "warms a 1;cools a 1;warms b 1;warms a 2;", 66, 3);
        faultOfParish(two + "glass a a b 1 1;", 36, 3);
        faultOfParish(two + "glass g a a 1 1;", 40, 3);
        faultOfParish(two + "glass g g a 1 1;", 38, 3);
        faultOfParish(two + "glass g z a 1 1;", 38, 3);
        faultOfParish(two + "person c 0 0 0;glass g a b 1 1;glass h c b 1 1;", 71, 3);
        faultOfParish(two + "person c 0 0 0;glass g a b 1 1;glass h a c 1 1;", 69, 3);
        faultOfParish(two + "glass g a b 1 1;good k a 1 1;", 53, 3);
        faultOfParish(two + "glass g a b 1 1;good g g 1 1;", 51, 3);
        faultOfParish(two + "glass g a b 1 1;good k g 1 1;person k 0 0 0;", 66, 3);
        faultOfParish(two + "glass g a b 1 1;warms g 1;", 52, 3);
        faultOfParish("grace 2;grace 2;", 8, 3);
        faultOfParish("wish 2;early;wish 100;", 13, 3);
        faultOfParish("early;early", 6, 3);
        faultOfParish("level;level", 6, 3);
    }

    private static void faultsOfSorts() {
        StringBuilder eight = new StringBuilder();
        for (char c = 'a'; c < 'i'; c++) {
            eight.append("person ").append(c).append(" 0 0 0;");
        }
        faultOfParish(eight + "person", 120, 4);
        String four = eight + "glass ga a b 1 1;glass gb c d 1 1;glass gc e f 1 1;glass gd g h 1 1;";
        due("eight and four", parishOf(four).count(1), 4);
        faultOfParish(four + "glass ga a a 0 0;", 188, 4);
        String goods = four + "good k ga 1 1;good l ga 1 1;good m gd 1 1;good n gd 1 1;good o ga 1 1;good p ga 1 1;";
        due("six goods", parishOf(goods).count(2), 6);
        faultOfParish(goods + "good", 272, 4);
        faultOfParish("damp 1 2;damp 1 2;damp 1 2;damp 1 2;damp 1 2;damp 1 2;damp 1 2;", 54, 4);
    }

    private static void faultsOfLength() {
        due("900 bytes", parishOf(" ".repeat(894) + "early;").count(5), 1);
        faultOfParish("early;" + " ".repeat(895), 900, 1);
        faultOfParish(" ".repeat(895) + "early;", 900, 1);
        faultOfParish(" ".repeat(899) + "early;", 900, 1);
        faultOfParish(" ".repeat(899) + "earlyx;", 899, 1);
        faultOfParish(" ".repeat(900) + "x;", 900, 1);
        faultOfParish("early;early;" + " ".repeat(895), 6, 3);
        faultOfParish(" ".repeat(899) + "person a 1 1 1;", 900, 1);
        faultOfParish("early" + " ".repeat(894) + "x", 899, 1);
        faultOfParish("early;" + " ".repeat(894) + "early;", 900, 1);
        faultOfParish("early;" + " ".repeat(893) + "early;", 899, 3);
    }

    private static void aNewParish() {
        promise(4);
        GlassVows x = parishOf("person a 5 6 70;person b 0 0 70;person c 5 6 70;person d 0 0 0;warms a 9;cools b 9;"
                + "glass g a b 3 3;glass h c d 1 1;good k g 1 1;damp 0 599;grace 1;wish 70;early;level;");
        x.tilt(0, 2);
        x.hours(24);
        x.tilt(0, 1);
        x.widen(0, 1);
        x.spill(0, 1);
        x.turn(1);
        x.wake(0);
        due("lapsed", x.now(2), 2);
        tell(x, "person a 5 6 40;person b 5 6 70;glass g a b 5 2;person c 1 1 1;person d 1 1 1;glass h c d 6 1;");
        due("LINES", x.parish(), 6);
        int[] counts = {4, 2, 0, 2, 50, 0, 0, 0, 0};
        for (int what = 0; what < counts.length; what++) {
            due("count(" + what + ")", x.count(what), counts[what]);
        }
        int[] nows = {0, 0, 0, 12, 0, 11};
        for (int what = 0; what < nows.length; what++) {
            due("now(" + what + ")", x.now(what), nows[what]);
        }
        int[] glass = {0, 1, 5, 2, 5, 0, 0, 0, 0, 2};
        for (int what = 0; what < glass.length; what++) {
            due("glass(0, " + what + ")", x.glass(0, what), glass[what]);
        }
        int[] person = {0, 70, 0, 0, 0, 0};
        for (int what = 0; what < person.length; what++) {
            due("person(1, " + what + ")", x.person(1, what), person[what]);
        }
        x.tilt(0, 1);
        x.hours(24);
        due("nobody warms", x.person(0, 1), 40);
        due("nobody cools", x.person(1, 1), 70);
        tell(x, "person a 0 0 1;person b 0 0 1;glass g a b 1 1;good k a 1 1;");
        due("a good of a person", x.parish(), -54);
        tell(x, "person a 0 0 1;person b 0 0 1;glass g a b 1 1;good k early 1 1;");
        due("a good of a word that is no name", x.parish(), -54);
        due("fault", x.fault(), 1);
    }

    private static void faults() {
        promise(5);
        GlassVows x = parishOf(PARISH);
        due("without one", x.fault(), 0);
        tell(x, "wish 100;");
        x.parish();
        due("of a parish", x.fault(), 2);
        x.feed(0, 0, 0, 0, 0);
        due("another lives", x.roll(2), -1000);
        due("a roll() of -1000 leaves it", x.fault(), 2);
        x.end(0);
        due("an empty roll", x.roll(0), NONE);
        due("without one", x.fault(), 0);
        due("an empty sentence", x.sentence(), -1);
        due("of a sentence", x.fault(), 1);
        rollOf(x, "zed turns;", 0);
        due("of a roll", x.fault(), 3);
        tell(x, "run");
        x.sentence();
        due("without one", x.fault(), 0);
    }

    private static void persons() {
        promise(6);
        GlassVows x = parishOf(PARISH + "person eve 5 5 50;");
        int[] ann = {0, 60, 0, 1, 0, 0};
        int[] dot = {1, 80, 1, 2, 0, 1};
        int[] eve = {1, 50, NONE, NONE, 0, 1};
        for (int what = 0; what < 6; what++) {
            due("person(0, " + what + ")", x.person(0, what), ann[what]);
            due("person(3, " + what + ")", x.person(3, what), dot[what]);
            due("person(4, " + what + ")", x.person(4, what), eve[what]);
        }
        for (int h = 0; h < 48; h++) {
            int t = h % 24;
            due("ann awake at " + h, x.person(0, 0), t >= 6 && t < 22 ? 1 : 0);
            due("cal awake at " + h, x.person(2, 0), 1);
            due("dot awake at " + h, x.person(3, 0), t >= 20 || t < 4 ? 1 : 0);
            x.hours(1);
        }
        due("bob warms", x.person(1, 1), 50);
        due("cal cools", x.person(2, 1), 64);
        due("dot as ever", x.person(3, 1), 80);
        due("no person 5", personThrows(x, 5, 0), true);
        due("no person -1", personThrows(x, -1, 0), true);
        due("no 6", personThrows(x, 0, 6), true);
        due("no -1", personThrows(x, 0, -1), true);
        GlassVows y = parishOf("person a 0 0 98;person b 0 0 2;warms a 5;cools a 3;cools b 9;");
        y.hours(24);
        due("first fonder to 99, then less", y.person(0, 1), 96);
        due("not below 0", y.person(1, 1), 0);
        y.hours(23);
        due("not ahead of the next day's end", y.person(0, 1), 96);
        GlassVows z = parishOf("person a 0 0 50;person b 0 0 49;person c 3 4 99;");
        due("as fond as the wish", z.person(0, 5), 1);
        due("less fond", z.person(1, 5), 0);
        due("asleep", z.person(2, 5), 0);
        z.wake(2);
        due("woken", z.person(2, 5), 1);
    }

    private static void glasses() {
        promise(7);
        GlassVows x = parishOf(PARISH);
        int[] vow = {0, 1, 30, 4, 30, 0, 0, 0, 0, 4};
        for (int what = 0; what < 10; what++) {
            due("glass(0, " + what + ")", x.glass(0, what), vow[what]);
        }
        x.hours(5);
        due("half in the damp", x.glass(0, 9), 2);
        due("1 at least", x.glass(1, 9), 1);
        due("left", x.glass(0, 4), 10);
        x.tilt(0, 1);
        due("aslant in the damp", x.glass(0, 9), 1);
        x.widen(0, 5);
        due("9, 4, 2", x.glass(0, 9), 2);
        x.tilt(0, 2);
        due("level", x.glass(0, 9), 0);
        x.tilt(0, 0);
        x.hours(4);
        due("as damp as told to the last hour", x.glass(0, 9), 4);
        x.hours(1);
        due("damp no more", x.glass(0, 9), 9);
        due("no glass 2", glassThrows(x, 2, 0), true);
        due("no glass -1", glassThrows(x, -1, 0), true);
        due("no 10", glassThrows(x, 0, 10), true);
        due("no -1", glassThrows(x, 0, -1), true);
        GlassVows y = parishOf(UNFOND);
        y.hours(6);
        due("waited", y.glass(0, 7), 1);
        due("not lapsed yet", y.glass(0, 6), 0);
        due("runs though none are left", y.glass(0, 9), 2);
        y.hours(1);
        due("lapsed", y.glass(0, 6), 1);
        due("waited", y.glass(0, 7), 2);
        due("lapsed: runs", y.glass(0, 9), 0);
        y.hours(1);
        due("lapsed ones wait no more", y.glass(0, 7), 2);
        GlassVows z = parishOf("person a 0 0 99;person b 0 0 99;glass g a b 250 1;");
        for (int i = 0; i < 10; i++) {
            z.hours(60);
        }
        due("all are over: runs", z.glass(0, 9), 0);
        due("turned at 250 and 501", z.glass(0, 8), 2);
        due("by the first told", z.person(0, 4), 2);
    }

    private static void nows() {
        promise(8);
        GlassVows x = parishOf(PARISH);
        int[] atFirst = {0, 0, 0, 12, 0, 40};
        for (int what = 0; what < 6; what++) {
            due("now(" + what + ")", x.now(what), atFirst[what]);
        }
        due("now(6)", x.now(6), NONE);
        due("now(-1)", x.now(-1), NONE);
        x.hours(4);
        due("damp at 4", x.now(1), 0);
        x.hours(1);
        due("damp at 5", x.now(1), 1);
        x.hours(4);
        due("damp at 9", x.now(1), 1);
        x.hours(1);
        due("damp at 10", x.now(1), 0);
        due("awake at 10", x.now(3), 7);
        x.hours(1);
        due("turnings", x.now(4), 2);
        x.hours(19);
        due("lapsed in 29", x.now(2), 1);
        due("hour", x.now(0), 30);
        GlassVows y = parishOf("person a 0 0 0;person b 0 0 0;glass g a b 10 1;person c 0 0 0;person d 0 0 0;"
                + "glass h c d 5 9;grace 1;");
        y.hours(2);
        due("who is lapsed", y.now(2), 2);
        due("all that is left", y.now(5), 8);
    }

    private static void turns() {
        promise(9);
        GlassVows x = parishOf("person a 0 0 0;person b 6 7 0;person c 0 0 0;glass g a b 10 3;");
        due("no such", x.turn(3), NONE);
        due("no such", x.turn(-1), NONE);
        due("not wed", x.turn(2), 1);
        due("not awake", x.turn(1), 2);
        due("sand is left", x.turn(0), 3);
        x.hours(4);
        due("none is left", x.turn(0), 0);
        due("all", x.glass(0, 4), 10);
        due("by whom", x.person(0, 4), 1);
        due("turned", x.glass(0, 8), 1);
        due("sand is left", x.turn(0), 3);
        x.undo();
        x.hours(1);
        due("waited", x.glass(0, 7), 1);
        x.turn(0);
        due("waited 0", x.glass(0, 7), 0);
        x.undo();
        x.hours(1);
        due("lapsed", x.turn(0), 1);
        GlassVows y = parishOf("person a 0 0 0;person b 0 0 0;glass g a b 10 3;early;");
        due("all of it is left", y.turn(0), 4);
        y.hours(1);
        due("early", y.turn(1), 0);
        due("what had run", y.glass(0, 4), 3);
        y.spill(0, 3);
        due("what was spilt has run", y.turn(0), 0);
        due("all", y.glass(0, 4), 10);
    }

    private static void wakes() {
        promise(10);
        GlassVows x = parishOf(PARISH);
        due("no such", x.wake(4), NONE);
        due("no such", x.wake(-1), NONE);
        due("awake", x.wake(2), 1);
        due("asleep", x.wake(0), 0);
        due("woken", x.person(0, 0), 1);
        due("woken already", x.wake(0), 1);
        due("awake bits", x.now(3), 13);
        x.hours(1);
        due("woken no more", x.person(0, 0), 0);
        GlassVows y = parishOf("person a 5 6 50;person b 5 6 50;glass g a b 1 1;grace 1;");
        y.hours(1);
        y.wake(1);
        y.hours(1);
        due("who was woken turns it", y.person(1, 4), 1);
        due("the other did not", y.person(0, 4), 0);
    }

    private static void woos() {
        promise(11);
        GlassVows x = parishOf(PARISH + "person eve 0 0 0;");
        due("no such", x.woo(5, 1), NONE);
        due("no such", x.woo(-1, 1), NONE);
        due("n 0", x.woo(2, 0), NONE);
        due("n 21", x.woo(2, 21), NONE);
        due("not wed", x.woo(4, 1), 1);
        due("not awake", x.woo(0, 1), 2);
        due("done", x.woo(2, 18), 0);
        due("the other one is fonder", x.person(3, 1), 98);
        due("not he", x.person(2, 1), 70);
        due("done", x.woo(2, 20), 0);
        due("99 at most", x.person(3, 1), 99);
        GlassVows y = parishOf(UNFOND);
        y.hours(7);
        due("lapsed", y.woo(0, 1), 1);
    }

    private static void tilts() {
        promise(12);
        GlassVows x = parishOf(UNFOND);
        due("no such", x.tilt(1, 1), NONE);
        due("no such", x.tilt(-1, 1), NONE);
        due("K 3", x.tilt(0, 3), NONE);
        due("K -1", x.tilt(0, -1), NONE);
        due("it is so", x.tilt(0, 0), 2);
        due("'level' was not told", x.tilt(0, 2), 3);
        due("done", x.tilt(0, 1), 0);
        due("aslant", x.glass(0, 5), 1);
        due("it is so", x.tilt(0, 1), 2);
        due("upright", x.tilt(0, 0), 0);
        x.hours(7);
        due("lapsed", x.tilt(0, 0), 1);
        GlassVows y = parishOf(PARISH);
        due("level", y.tilt(0, 2), 0);
        y.hours(60);
        due("nothing runs", y.glass(0, 4), 30);
    }

    private static void widens() {
        promise(13);
        GlassVows x = parishOf(UNFOND);
        due("no such", x.widen(1, 1), NONE);
        due("no such", x.widen(-1, 1), NONE);
        due("n 0", x.widen(0, 0), NONE);
        due("n 9", x.widen(0, 9), NONE);
        due("above 9", x.widen(0, 8), 2);
        due("9", x.widen(0, 7), 0);
        due("neck", x.glass(0, 3), 9);
        due("above 9", x.widen(0, 1), 2);
        x.hours(4);
        due("lapsed", x.widen(0, 1), 1);
    }

    private static void spills() {
        promise(14);
        GlassVows x = parishOf(UNFOND);
        due("no such", x.spill(1, 1), NONE);
        due("no such", x.spill(-1, 1), NONE);
        due("n 0", x.spill(0, 0), NONE);
        due("n 251", x.spill(0, 251), NONE);
        due("fewer are left", x.spill(0, 11), 2);
        due("fewer are left", x.spill(0, 250), 2);
        due("done", x.spill(0, 4), 0);
        due("left", x.glass(0, 4), 6);
        due("grains stay", x.glass(0, 2), 10);
        due("all", x.spill(0, 6), 0);
        due("none", x.glass(0, 4), 0);
        x.hours(2);
        due("lapsed", x.spill(0, 1), 1);
    }

    private static void hoursGo() {
        promise(15);
        GlassVows x = parishOf(PARISH);
        due("0", x.hours(0), NONE);
        due("-1", x.hours(-1), NONE);
        due("61", x.hours(61), NONE);
        for (int i = 0; i < 9; i++) {
            due("60", x.hours(60), 60);
        }
        due("59", x.hours(59), 59);
        due("one more", x.hours(60), 1);
        due("all are over", x.hours(1), 0);
        due("600", x.now(0), 600);
        GlassVows y = parishOf("person a 2 3 50;person b 0 0 50;glass g a b 3 2;");
        y.hours(2);
        due("all go, if there are not as many", y.glass(0, 4), 0);
        y.hours(1);
        due("the first told who is willing", y.person(0, 4), 1);
        due("nothing runs in the hour of the turning", y.glass(0, 4), 3);
        y.hours(3);
        due("else the second", y.person(1, 4), 1);
        GlassVows z = parishOf("person a 0 0 49;person b 0 0 49;warms b 1;glass g a b 22 1;grace 3;");
        z.hours(24);
        due("waited at 22 and 23", z.glass(0, 7), 2);
        z.hours(1);
        due("fond enough behind hour 23", z.person(1, 4), 1);
        due("waited 0", z.glass(0, 7), 0);
    }

    private static void undos() {
        promise(16);
        GlassVows x = parishOf(PARISH);
        due("none", x.undo(), NONE);
        x.turn(0);
        x.hours(0);
        x.drawn(0, 1);
        due("what was not done is not undone", x.undo(), NONE);
        x.wake(0);
        x.woo(0, 5);
        x.tilt(0, 1);
        x.widen(0, 2);
        x.spill(0, 30);
        x.turn(0);
        x.hours(30);
        x.drawn(3, 9);
        due("judged alone", rollOf(x, "hour 5;", 0), NONE);
        due("drawn", x.undo(), 7);
        due("hour", x.now(0), 30);
        due("hours", x.undo(), 6);
        due("hour", x.now(0), 0);
        due("turned", x.glass(0, 8), 1);
        due("turn", x.undo(), 5);
        due("turned", x.glass(0, 8) + x.person(0, 4) + x.now(4), 0);
        due("spill", x.undo(), 4);
        due("left", x.glass(0, 4), 30);
        due("widen", x.undo(), 3);
        due("neck", x.glass(0, 3), 4);
        due("tilt", x.undo(), 2);
        due("upright", x.glass(0, 5), 0);
        due("woo", x.undo(), 1);
        due("fond", x.person(1, 1), 40);
        due("wake", x.undo(), 0);
        due("asleep", x.person(0, 0), 0);
        due("none", x.undo(), NONE);
        for (int i = 0; i < 10; i++) {
            x.hours(1);
        }
        rollOf(x, "hour 4;", 1);
        due("a roll that was lived", x.undo(), 7);
        due("hour", x.now(0), 10);
        for (int i = 6; i >= 0; i--) {
            due("8 at most are kept", x.undo(), i);
        }
        due("hour", x.now(0), 3);
        due("none", x.undo(), NONE);
        for (int i = 0; i < 10; i++) {
            x.hours(60);
        }
        x.undo();
        x.hours(60);
        x.hours(60);
        x.drawn(60, 1);
        x.undo();
        due("hours() of 0 and drawn() of 0 are not kept", x.now(0), 543);
        tell(x, "early;");
        x.parish();
        due("acts of another parish", x.undo(), NONE);
    }

    private static void undosOfRolls() {
        promise(16);
        GlassVows x = new GlassVows();
        due("a roll without lines", x.roll(1), NONE);
        due("nothing of it was lived", x.undo(), NONE);
        x = parishOf(PARISH);
        due("blanks alone", rollOf(x, " \n ", 1), NONE);
        due("nothing of them was lived", x.undo(), NONE);
        due("the first line is wrong", rollOf(x, "ann turns;hour 3;", 1), 0);
        due("why", x.rolled(0), 2);
        due("nothing of it was lived", x.undo(), NONE);
        due("hour", x.now(0), 0);
        due("the second line is wrong", rollOf(x, "hour 3;ann turns;hour 2;", 1), 1);
        due("hour", x.now(0), 3);
        due("one line of it was lived", x.undo(), 0);
        due("hour", x.now(0), 0);
        x.wake(0);
        due("who is fond as can be", rollOf(x, "ann woos 20;ann woos 20;ann woos 20;", 1), NONE);
        due("is wooed still", rollOf(x, "ann woos 1;", 1), NONE);
        due("fond", x.person(1, 1), 99);
        due("a line was lived, though all is as it was", x.undo(), 2);
        due("fond", x.person(1, 1), 99);
        due("three lines are undone at once", x.undo(), 1);
        due("fond", x.person(1, 1), 40);
        due("undone", x.undo(), 0);
        for (int i = 0; i < 8; i++) {
            x.hours(1);
        }
        rollOf(x, "", 1);
        rollOf(x, "bob wakes;", 1);
        due("what was not lived drives out none that is kept", x.undo(), 7);
        due("the latest that was done is undone", x.now(0), 7);
        for (int i = 6; i >= 0; i--) {
            due("each is kept", x.undo(), i);
        }
        due("hour", x.now(0), 0);
    }

    private static void endings() {
        promise(17);
        GlassVows x = parishOf(PARISH);
        due("ends(0)", x.ends(0), 10);
        due("ends(1)", x.ends(1), 10);
        due("no such", x.ends(2), NONE);
        due("no such", x.ends(-1), NONE);
        x.spill(0, 30);
        due("now", x.ends(0), 0);
        x.undo();
        x.tilt(0, 2);
        due("level", x.ends(0), NONE);
        GlassVows y = parishOf("person a 0 0 0;person b 0 0 0;glass g a b 250 1;");
        y.hours(60);
        due("ends", y.ends(0), 250);
        y.tilt(0, 1);
        due("1 at least", y.ends(0), 250);
        for (int i = 0; i < 4; i++) {
            y.hours(60);
        }
        due("lapsed", y.ends(0), NONE);
        GlassVows z = parishOf("person a 0 0 99;person b 0 0 99;glass g a b 98 1;");
        for (int i = 0; i < 9; i++) {
            z.hours(60);
        }
        due("ends at 593: turned at 98, 197, 296, 395, 494", z.ends(0), 593);
        z.hours(54);
        due("not by 599", z.ends(0), NONE);
        promise(18);
        due("lapses(0)", parishOf(PARISH).lapses(0), 29);
        due("lapses(1)", parishOf(PARISH).lapses(1), 176);
        due("no such", z.lapses(1), NONE);
        due("no such", z.lapses(-1), NONE);
        due("not by 599", z.lapses(0), NONE);
        due("it is lapsed", y.lapses(0), NONE);
        GlassVows u = parishOf(UNFOND);
        due("5 hours, then two", u.lapses(0), 6);
        u.hours(6);
        due("now", u.lapses(0), 6);
        u.widen(0, 1);
        due("it goes on by what is so now", u.lapses(0), 6);
        GlassVows w = parishOf("person a 0 1 50;person b 0 1 50;glass g a b 1 1;grace 1;");
        w.hours(1);
        w.wake(0);
        due("who is woken now turns it now", w.lapses(0), 3);
        promise(19);
        due("soonest()", parishOf(PARISH).soonest(), 0);
        due("none does", z.soonest(), NONE);
        due("a lapsed one does not", y.soonest(), NONE);
        String four = "person a 0 0 0;person b 0 0 0;person c 0 0 0;person d 0 0 0;glass g a b 8 1;glass h c d ";
        due("of like ones the first", parishOf(four + "8 1;").soonest(), 0);
        due("of like ones the first", parishOf(four + "15 2;").soonest(), 0);
        due("the sooner", parishOf(four + "7 1;").soonest(), 1);
    }

    private static void watches() {
        promise(20);
        GlassVows x = parishOf(PARISH);
        due("one hour", x.watch(0, 1), 0);
        due("no such", x.watch(2, 1), NONE);
        due("no such", x.watch(-1, 1), NONE);
        due("0 hours", x.watch(0, 0), NONE);
        due("61 hours", x.watch(0, 61), NONE);
        promise(21);
        due("ahead of any", x.waking(0), NONE);
        promise(20);
        due("30 hours", x.watch(0, 30), 1);
        promise(21);
        due("as late as may be, the first", x.waking(0), 290);
        due("none such", x.waking(1), NONE);
        due("none such", x.waking(-1), NONE);
        due("a watch of NONE leaves it", x.watch(9, 30), NONE);
        due("as before", x.waking(0), 290);
        due("none are needed", x.watch(0, 29), 0);
        due("none such", x.waking(0), NONE);
        due("none of this comes to be", x.now(0) + x.now(4), 0);
        promise(20);
        due("unfond ones can't", parishOf(UNFOND).watch(0, 7), NONE);
        due("not needed yet", parishOf(UNFOND).watch(0, 6), 0);
        GlassVows l = parishOf(UNFOND);
        l.hours(7);
        due("lapsed", l.watch(0, 1), NONE);
        fewestWakings();
    }

    private static void fewestWakings() {
        // Without sand at 2; a is fond but asleep till 8, b is not fond: grace 3 lets it wait till 4.
        GlassVows x = parishOf("person a 8 9 50;person b 0 0 0;glass g a b 2 1;grace 3;");
        promise(20);
        due("woken at 4: sand till 7, awake at 8", x.watch(0, 9), 1);
        promise(21);
        due("the last of three hours", x.waking(0), 40);
        GlassVows y = parishOf("person a 0 0 0;person b 8 9 50;glass g a b 2 1;grace 3;");
        promise(20);
        due("the second", y.watch(0, 9), 1);
        promise(21);
        due("the second of the two", y.waking(0), 41);
        // Without sand at 1, 3 grains: woken at 2 it is without sand at 6 and a turns it himself,
        // woken as late as 3 it is so at 7, when he is asleep again.
        GlassVows z = parishOf("person a 6 7 50;person b 0 0 0;glass g a b 3 3;grace 3;");
        z.tilt(0, 1);
        z.spill(0, 2);
        promise(20);
        due("an earlier waking may save a later one", z.watch(0, 10), 1);
        promise(21);
        due("as late as may be of the fewest", z.waking(0), 20);
        // a is not fond any more from hour 24 on, so it must be woken at 23, though grace lasts till 25.
        GlassVows w = parishOf("person a 1 2 50;person b 0 0 0;cools a 1;glass g a b 23 1;grace 3;");
        promise(20);
        due("fond for an hour more", w.watch(0, 30), 1);
        promise(21);
        due("while he is fond", w.waking(0), 230);
        GlassVows v = parishOf("person a 12 13 50;person b 12 13 50;glass g a b 1 1;grace 1;");
        promise(20);
        due("every other hour", v.watch(0, 11), 5);
        promise(21);
        for (int k = 0; k < 5; k++) {
            due("waking(" + k + ")", v.waking(k), 10 * (2 * k + 1));
        }
        v.hours(1);
        v.wake(1);
        promise(20);
        due("who is woken now is willing now", v.watch(0, 2), 0);
        v.hours(60);
        due("lapsed at 3", v.glass(0, 6), 1);
        GlassVows s = parishOf("person a 12 13 50;person b 12 13 0;glass g a b 9 1;grace 3;");
        s.spill(0, 9);
        s.hours(2);
        due("two hours are waited already", s.watch(0, 2), 1);
        promise(21);
        due("now or never", s.waking(0), 20);
    }

    private static void choicesOfGrains() {
        GlassVows x = parishOf(PARISH);
        promise(22);
        due("chosen(0)", x.chosen(0), 250);
        promise(23);
        due("choices(0)", x.choices(0), 40);
        // Runs 2 an hour; both are willing at the rests 3 and 4 alone; behind hour 47 b is not fond any more.
        GlassVows y = parishOf("person a 3 6 50;person b 1 5 52;cools b 2;glass g a b 200 2;");
        promise(22);
        due("ends at 28 by 55 or 56", y.chosen(0), 56);
        promise(23);
        due("at 3, 4, 27, 28 by two each", y.choices(0), 8);
        y.hours(4);
        promise(22);
        due("ends at 28 by 47 or 48 from now on", y.chosen(0), 48);
        promise(23);
        due("not now, with 1 grain at least", y.choices(0), 4);
        promise(22);
        due("none", parishOf(UNFOND).chosen(0), NONE);
        due("no such", y.chosen(1), NONE);
        due("no such", y.chosen(-1), NONE);
        promise(23);
        due("none", parishOf(UNFOND).choices(0), 0);
        due("no such", y.choices(1), NONE);
        due("no such", y.choices(-1), NONE);
        GlassVows u = parishOf(UNFOND);
        u.hours(7);
        due("lapsed", u.choices(0), NONE);
        promise(22);
        due("lapsed", u.chosen(0), NONE);
        GlassVows v = parishOf("person a 0 0 50;person b 0 0 50;glass g a b 1 9;");
        due("all", v.chosen(0), 250);
        promise(23);
        due("all", v.choices(0), 250);
        for (int i = 0; i < 9; i++) {
            v.hours(60);
        }
        v.hours(50);
        due("ends by 599: 9 hours of 9", v.choices(0), 81);
        promise(22);
        due("ends by 599", v.chosen(0), 81);
    }

    private static void plays() {
        GlassVows x = parishOf(PARISH);
        promise(24);
        due("play(0)", x.play(0), 0);
        due("play(1): dot is asleep", x.play(1), 2);
        due("no such", x.play(2), NONE);
        due("no such", x.play(-1), NONE);
        promise(25);
        due("playAt(0)", x.playAt(0), 11);
        due("playAt(1)", x.playAt(1), 11);
        due("no such", x.playAt(2), NONE);
        due("no such", x.playAt(-1), NONE);
        GlassVows y = parishOf("person a 4 6 50;person b 3 5 50;glass g a b 3 1;grace 5;");
        promise(24);
        due("ends at 3; b at 3, a and b at 4, a at 5", y.play(0), 0);
        promise(25);
        due("the last", y.playAt(0), 5);
        GlassVows z = parishOf("person a 4 6 50;person b 3 5 50;glass g a b 3 1;grace 2;");
        promise(24);
        due("in one hour the second is later", z.play(0), 1);
        promise(25);
        due("the last of the grace", z.playAt(0), 4);
        GlassVows u = parishOf(UNFOND);
        due("nobody", u.playAt(0), NONE);
        promise(24);
        due("nobody", u.play(0), NONE);
        x.tilt(0, 2);
        due("it does not end", x.play(0), NONE);
        promise(25);
        due("it does not end", x.playAt(0), NONE);
        GlassVows w = parishOf("person a 0 0 50;person b 0 0 50;cools b 1;glass g a b 23 1;");
        due("b is less fond from 24 on", w.playAt(0), 24);
        promise(24);
        due("so a is the last", w.play(0), 0);
        GlassVows v = parishOf("person a 0 0 99;person b 0 0 99;glass g a b 98 1;grace 9;");
        for (int i = 0; i < 9; i++) {
            v.hours(60);
        }
        promise(25);
        due("to hour 599", v.playAt(0), 599);
        u.hours(9);
        due("lapsed", u.playAt(0), NONE);
    }

    private static void steals() {
        promise(26);
        GlassVows x = parishOf(PARISH);
        due("by 8", x.steal(0, 8), 14);
        due("by 6", x.steal(0, 6), 14);
        due("by 5", x.steal(0, 5), 18);
        due("by 1: grace is 2", x.steal(0, 1), NONE);
        due("by 30: it lapses by itself", x.steal(0, 30), 0);
        due("by 600", x.steal(0, 600), 0);
        due("by 601", x.steal(0, 601), NONE);
        due("now", x.steal(0, 0), NONE);
        due("ahead", x.steal(0, -1), NONE);
        due("no such", x.steal(2, 8), NONE);
        due("no such", x.steal(-1, 8), NONE);
        due("by none: cal never sleeps", x.steal(1, 9), NONE);
        due("nothing is spilt", x.glass(0, 4), 30);
        x.hours(3);
        due("now", x.steal(0, 3), NONE);
        due("by 5 all that are left", x.steal(0, 5), 18);
        GlassVows u = parishOf(UNFOND);
        due("at its beginning: lapsed in 6", u.steal(0, 7), 0);
        due("by 6", u.steal(0, 6), 2);
        u.hours(7);
        due("lapsed", u.steal(0, 9), NONE);
    }

    private static void parting() {
        GlassVows x = parishOf(PARISH);
        promise(27);
        due("9 and 11", x.parts(0), 9);
        due("no goods", x.parts(1), 0);
        due("no such", x.parts(2), NONE);
        due("no such", x.parts(-1), NONE);
        promise(28);
        due("the cow", x.parted(0), 1);
        due("none", x.parted(1), 0);
        due("no such", x.parted(2), NONE);
        due("no such", x.parted(-1), NONE);
        promise(29);
        int[][] goods = {{0, 9, 4}, {0, 3, 3}, {0, 5, 8}};
        for (int k = 0; k < 3; k++) {
            for (int what = 0; what < 3; what++) {
                due("good(" + k + ", " + what + ")", x.good(k, what), goods[k][what]);
            }
        }
        due("no such", x.good(3, 0), NONE);
        due("no such", x.good(-1, 0), NONE);
        due("no such", x.good(0, 3), NONE);
        due("no such", x.good(0, -1), NONE);
        GlassVows y = parishOf("person a 0 0 0;person b 0 0 0;person c 0 0 0;person d 0 0 0;glass g a b 1 1;"
                + "glass h c d 1 1;good k h 5 5;good l g 1 99;good m h 5 5;good n g 7 2;good o h 0 0;grace 1;");
        promise(27);
        due("7 and 99", y.parts(0), 7);
        due("5 and 5", y.parts(1), 5);
        promise(28);
        due("the good n", y.parted(0), 8);
        due("of like ones the least", y.parted(1), 1);
        promise(29);
        due("its glass", y.good(2, 0), 1);
        y.hours(2);
        promise(27);
        due("lapsed ones part, too", y.parts(0), 7);
    }

    private static void laws() {
        promise(30);
        GlassVows e = new GlassVows();
        due("none at all", e.law(0, 1), 1);
        due("no such", e.law(1, 1), NONE);
        due("no such", e.law(-1, 1), NONE);
        due("0 hours", e.law(0, 0), NONE);
        due("61 hours", e.law(0, 61), NONE);
        GlassVows x = parishOf(PARISH);
        due("30 hours", x.law(1, 30), 3);
        due("29 hours", x.law(1, 29), 2);
        due("28 hours", x.law(1, 28), 1);
        due("the other", x.law(2, 60), 1);
        due("both", x.law(3, 30), 3);
        due("no such", x.law(4, 1), NONE);
        GlassVows u = parishOf(UNFOND);
        due("5 hours of sand, 8 without", u.law(1, 13), 9);
        due("by none", u.law(1, 14), NONE);
        u.hours(6);
        due("one hour is waited already", u.law(1, 1), 3);
        u.hours(1);
        due("lapsed already", u.law(1, 1), NONE);
        due("not asked for", u.law(0, 1), 1);
    }

    private static void ringing() {
        promise(31);
        GlassVows x = parishOf("person a 0 0 99;person b 0 0 99;person c 0 0 0;person d 0 0 0;glass g a b 20 4;"
                + "glass h c d 1 1;damp 2 3;level;");
        x.hours(4);
        // 4 a hour at 0 and 1, 2 at 2 and 3: 20 now, 18 an hour ago, 16, 12, 8.
        int[] left = {20, 18, 16, 12, 8};
        for (int ago = 0; ago < 5; ago++) {
            tell(x, "" + (char) left[ago]);
            due("left " + left[ago], x.rings(0), 1 << ago);
        }
        due("the tape is empty", x.count(8), 0);
        tell(x, "" + (char) 17);
        due("none such", x.rings(0), 0);
        tell(x, "" + (char) 255);
        due("more than there are", x.rings(0), 0);
        due("an empty tape", x.rings(0), NONE);
        tell(x, "ab");
        due("two bytes", x.rings(0), NONE);
        due("the tape is empty", x.count(8), 0);
        tell(x, "a");
        due("no such", x.rings(2), NONE);
        due("the tape is empty", x.count(8), 0);
        tell(x, "" + (char) 0);
        due("lapsed", x.rings(1), NONE);
        x.tilt(0, 1);
        tell(x, "" + (char) 18);
        due("by the tilt of now: 1 at 3, 1 at 2", x.rings(0), 1 << 2);
        x.tilt(0, 2);
        tell(x, "" + (char) 20);
        due("level: not ahead of hour 0", x.rings(0), 31);
        x.tilt(0, 0);
        x.hours(36);
        tell(x, "" + (char) 0);
        due("5 to 24 hours ago", x.rings(0), (1 << 25) - (1 << 5));
    }

    private static void togetherness() {
        promise(32);
        GlassVows x = parishOf(PARISH);
        due("8 to 21", x.together(0, 24), 14);
        due("20 to 3", x.together(1, 24), 8);
        due("9 hours", x.together(0, 9), 1);
        due("60 hours", x.together(0, 60), 32);
        due("no such", x.together(2, 1), NONE);
        due("no such", x.together(-1, 1), NONE);
        due("0 hours", x.together(0, 0), NONE);
        due("61 hours", x.together(0, 61), NONE);
        x.wake(0);
        x.wake(1);
        due("not by waking", x.together(0, 1), 0);
        GlassVows y = parishOf("person a 0 0 0;person b 0 0 0;glass g a b 1 1;");
        for (int i = 0; i < 9; i++) {
            y.hours(60);
        }
        y.hours(50);
        due("lapsed, and to hour 599", y.together(0, 60), 10);
        y.hours(10);
        due("all are over", y.together(0, 60), 0);
    }

    private static void bannsAreRead() {
        promise(33);
        GlassVows x = parishOf(PARISH);
        promise(34);
        due("ahead of any", x.byteAt(0), NONE);
        bannsDue(x, 0, "ann and bob for 10");
        bannsDue(x, 1, "cal and dot for 10");
        promise(33);
        due("no such", x.banns(2), NONE);
        due("no such", x.banns(-1), NONE);
        promise(34);
        due("the latest stays", x.byteAt(0), 'c');
        due("none such", x.byteAt(18), NONE);
        due("none such", x.byteAt(-1), NONE);
        x.tilt(0, 2);
        bannsDue(x, 0, "ann and bob for good");
        x.tilt(0, 0);
        x.hours(3);
        bannsDue(x, 0, "ann and bob for 7");
        x.hours(27);
        bannsDue(x, 0, "ann and bob no more");
        GlassVows y = parishOf("person b 0 0 0;person abcdefg 0 0 0;person z 0 0 0;person zyxwvut 0 0 0;"
                + "glass g zyxwvut abcdefg 250 1;glass h z b 250 1;");
        bannsDue(y, 0, "zyxwvut and abcdefg for 250");
        bannsDue(y, 1, "z and b for 250");
        y.spill(1, 250);
        bannsDue(y, 1, "z and b for 0");
    }

    /** The document's draws, written out by hand once more. */
    private static final class Draws {
        int x;

        int of(int n) {
            x = x * 1103515245 + 12345;
            return (x >>> 8) % n;
        }
    }

    private static void draws() {
        promise(35);
        GlassVows x = parishOf("person a 0 0 10;person b 0 0 10;glass g a b 200 1;");
        GlassVows y = parishOf("person a 0 0 10;person b 0 0 10;glass g a b 200 1;");
        due("0 hours", x.drawn(0, 1), NONE);
        due("61 hours", x.drawn(61, 1), NONE);
        due("no persons", new GlassVows().drawn(1, 1), NONE);
        for (int seed = -3; seed < 4; seed++) {
            due("drawn", x.drawn(9, seed), 9);
            Draws d = new Draws();
            d.x = seed;
            for (int h = 0; h < 9; h++) {
                for (int p = 0; p < 2; p++) {
                    int what = d.of(12);
                    if (what == 0) {
                        y.woo(p, d.of(10) + 1);
                    } else if (what == 1) {
                        y.turn(p);
                    } else if (what == 2) {
                        y.wake(p);
                    }
                }
                if (d.of(30) == 0) {
                    y.spill(0, d.of(20) + 1);
                }
                y.hours(1);
            }
            due("fond", x.person(0, 1) * 100 + x.person(1, 1), y.person(0, 1) * 100 + y.person(1, 1));
            due("left", x.glass(0, 4), y.glass(0, 4));
        }
        due("something was wooed", x.person(0, 1) + x.person(1, 1) > 20, true);
        due("something was spilt", x.glass(0, 4) < 200 - 63, true);
        for (int i = 0; i < 8; i++) {
            x.drawn(60, i);
        }
        GlassVows w = parishOf("person a 5 6 0;person b 0 0 0;glass g a b 4 4;early;grace 9;");
        int turnings = 0;
        for (int seed = 0; seed < 40; seed++) {
            w.drawn(1, seed);
            turnings += w.now(4);
            w.undo();
        }
        due("nobody can turn what is all left", turnings, 0);
        w.hours(1);
        for (int seed = 0; seed < 40; seed++) {
            Draws d = new Draws();
            d.x = seed;
            int first = d.of(12);
            int second = first == 0 ? d.of(10) + 12 * d.of(12) : 12 * d.of(12);
            due("one hour is drawn", w.drawn(1, seed), 1);
            due("only b is awake to turn", w.now(4), second / 12 == 1 ? 1 : 0);
            due("undone", w.undo(), 1);
        }
        due("57 are left", x.drawn(60, 7), 57);
        due("all are over", x.drawn(60, 7), 0);
        promise(36);
        GlassVows z = parishOf("person a 0 12 50;person b 6 9 20;glass g a b 9 2;grace 3;");
        int sum = 0;
        for (int seed = 100; seed < 130; seed++) {
            z.drawn(48, seed);
            sum += 1 - z.glass(0, 6);
            z.undo();
        }
        due("30 seeds", z.odds(0, 30, 100), sum);
        due("one seed, and the others", z.odds(0, 1, 100) + z.odds(0, 29, 101), sum);
        due("some but not all", sum > 0 && sum < 30, true);
        due("all stays", z.now(0), 0);
        due("no such", z.odds(1, 1, 1), NONE);
        due("no such", z.odds(-1, 1, 1), NONE);
        due("0 seeds", z.odds(0, 0, 1), NONE);
        due("31 seeds", z.odds(0, 31, 1), NONE);
        GlassVows u = parishOf(UNFOND);
        u.hours(7);
        due("lapsed", u.odds(0, 30, Integer.MAX_VALUE), 0);
        GlassVows v = parishOf("person a 0 0 99;person b 0 0 99;glass g a b 9 2;");
        due("never", v.odds(0, 30, Integer.MAX_VALUE), 30);
    }

    private static void rolls() {
        promise(37);
        GlassVows x = parishOf(PARISH);
        tell(x, "hour 10;");
        due("another lives", x.roll(2), -1000);
        due("another lives", x.roll(-1), -1000);
        due("the tape stays", x.count(8), 8);
        due("judged", x.roll(0), NONE);
        due("the tape is empty", x.count(8), 0);
        due("all stays as it is", x.now(0), 0);
        promise(38);
        due("the hour then", x.rolled(2), 10);
        due("lines", x.rolled(1), 1);
        due("why", x.rolled(0), 0);
        due("another what", x.rolled(4), NONE);
        due("another what", x.rolled(-1), NONE);
        promise(37);
        due("the line that is wrong", rollOf(x, "ann wakes; ann woos 20; vow spills 30; ann turns; ann turns;", 1), 4);
        due("lived as far as it is not", x.glass(0, 8), 1);
        due("wooed", x.person(1, 1), 60);
        promise(38);
        due("sand is left", x.rolled(0), 3);
        due("lines that are not", x.rolled(1), 4);
        due("-1000 leaves it", x.roll(5) + x.rolled(0), -997);
        due("a fault leaves it", rollOf(x, "bob", 1), -5);
        due("a fault leaves it", x.rolled(0), 3);
        String[] wrongLines = {"eve turns", "ann turns", "ann wakes", "eve woos 1", "bob woos 1", "vow tilts 0",
            "vow tilts 2", "vow widens 6", "vow spills 31", "hour 60;hour 60;hour 60;hour 60;hour 60;hour 60;hour 60;"
            + "hour 60;hour 60;hour 59;hour 2"};
        int[] whys = {1, 2, 11, 21, 22, 32, 33, 42, 52, 61};
        GlassVows y = parishOf(PARISH.replace("level;", "person eve 0 0 0;"));
        for (int i = 0; i < wrongLines.length; i++) {
            if (i == 2) {
                y.hours(6);
            }
            int line = rollOf(y, "eve wakes".equals(wrongLines[i]) ? "" : wrongLines[i] + ";", 0);
            due("the line of " + wrongLines[i], line, i == 9 ? 9 : 0);
            due("why of " + wrongLines[i], y.rolled(0), whys[i]);
        }
        lapsedRolls();
        promise(37);
        String fresh = "hour 1;".repeat(40);
        due("40 lines", rollOf(x, fresh, 0), NONE);
        due("40 lines", x.rolled(1), 40);
        faultsOfRolls();
    }

    private static void lapsedRolls() {
        GlassVows u = parishOf(UNFOND);
        String[] lines = {"a turns", "a woos 1", "g tilts 1", "g widens 1", "g spills 1"};
        int[] whys = {1, 21, 31, 41, 51};
        for (int i = 0; i < lines.length; i++) {
            promise(37);
            due("lapsed", rollOf(u, "hour 7;" + lines[i] + ";", 0), 1);
            promise(38);
            due("why", u.rolled(0), whys[i]);
            due("who is lapsed then", u.rolled(3), 1);
            due("not now", u.now(2), 0);
        }
        GlassVows e = parishOf("person a 0 0 0;person b 0 0 0;glass g a b 5 1;early;");
        due("all of it is left", rollOf(e, "a turns;", 0), 0);
        due("why", e.rolled(0), 4);
        promise(37);
        for (int i = 0; i < 9; i++) {
            e.hours(60);
        }
        due("as many hours as are left", rollOf(e, "hour 60;", 1), NONE);
        due("fewer are left", rollOf(e, "hour 1;", 1), 0);
    }

    private static void faultsOfRolls() {
        promise(37);
        faultOfRoll("hour", 4, 1);
        faultOfRoll("hour 0;", 5, 2);
        faultOfRoll("hour 61;", 5, 2);
        faultOfRoll("hour 5", 6, 1);
        faultOfRoll("hour 5;;", 7, 1);
        faultOfRoll("hour 5;early;", 7, 1);
        faultOfRoll("hour 5;zed turns;", 7, 3);
        faultOfRoll("hour 5;cow turns;", 7, 3);
        faultOfRoll("hour 5;ann tilts 1;", 11, 1);
        faultOfRoll("hour 5;vow turns;", 11, 1);
        faultOfRoll("hour 5;vow zed;", 11, 1);
        faultOfRoll("hour 5;ann woos;", 15, 1);
        faultOfRoll("hour 5;ann woos 0;", 16, 2);
        faultOfRoll("hour 5;ann woos 21;", 16, 2);
        faultOfRoll("hour 5;vow tilts 3;", 17, 2);
        faultOfRoll("hour 5;vow widens 0;", 18, 2);
        faultOfRoll("hour 5;vow widens 9;", 18, 2);
        faultOfRoll("hour 5;vow spills 0;", 18, 2);
        faultOfRoll("hour 5;vow spills 251;", 18, 2);
        String forty = "hour 1;".repeat(40);
        faultOfRoll(forty + "hour", 280, 4);
        faultOfRoll(forty + "ann", 280, 4);
        faultOfRoll(forty + "zed", 280, 3);
        faultOfRoll(forty + "early", 280, 1);
        faultOfRoll(forty + "5", 280, 1);
        faultOfRoll(" ".repeat(393) + "hour 1; ", 400, 1);
        faultOfRoll(" ".repeat(399) + "hour 1;", 400, 1);
        faultOfRoll(" ".repeat(396) + "hourly 1;", 396, 3);
    }

    private static void sentences() {
        promise(39);
        GlassVows x = parishOf(PARISH);
        String[] texts = {"run", "not run", "(run)", "not(not(lapsed))and aslant or both", "of ann and left<5",
            "not not not not not not not run", "((((((( lapsed )))))))", "run or run".concat(" or run".repeat(18))};
        int[] ones = {1, 2, 2, 7, 2, 8, 8, 20};
        for (int i = 0; i < texts.length; i++) {
            tell(x, texts[i]);
            due("sentence() of " + texts[i], x.sentence(), ones[i]);
            due("the tape is empty", x.count(8), 0);
        }
        faultOfSentence("", 0, 1);
        faultOfSentence("  ", 2, 1);
        faultOfSentence("run run", 4, 1);
        faultOfSentence("run;", 3, 1);
        faultOfSentence("run)", 3, 1);
        faultOfSentence("(run", 4, 1);
        faultOfSentence("()", 1, 1);
        faultOfSentence("run and", 7, 1);
        faultOfSentence("run or and", 7, 1);
        faultOfSentence("not", 3, 1);
        faultOfSentence("zed", 0, 1);
        faultOfSentence("of", 2, 1);
        faultOfSentence("of early", 3, 1);
        faultOfSentence("of 5", 3, 1);
        faultOfSentence("of zed", 3, 3);
        faultOfSentence("of vow", 3, 3);
        faultOfSentence("left 5", 5, 1);
        faultOfSentence("left;5", 4, 1);
        faultOfSentence("left<", 5, 1);
        faultOfSentence("left<run", 5, 1);
        faultOfSentence("left<1000", 5, 1);
        faultOfSentence("left<=5", 5, 1);
        faultOfSentence("not ".repeat(8) + "run", 32, 4);
        faultOfSentence("(".repeat(8) + "run", 8, 4);
        faultOfSentence("(".repeat(8) + "zed", 8, 1);
        faultOfSentence("run" + " or run".repeat(20), 140, 4);
        faultOfSentence("run" + " or run".repeat(19) + " or zed", 140, 1);
        faultOfSentence("run" + " or run".repeat(18) + " or not run", 137, 4);
        faultOfSentence(" ".repeat(197) + "run ", 200, 1);
        faultOfSentence("run" + " ".repeat(195) + "andx", 198, 1);
        faultOfSentence("run" + " ".repeat(195) + "and run", 200, 1);
        GlassVows y = parishOf(PARISH);
        tell(y, " ".repeat(197) + "run");
        due("200 bytes", y.sentence(), 1);
    }

    private static void sayings() {
        promise(40);
        GlassVows x = parishOf("person a 0 6 90;person b 3 9 0;person c 0 0 0;person d 0 0 0;person e 0 0 0;"
                + "person f 0 0 0;person i 0 0 0;glass g a b 20 4;glass h c d 2 9;glass k e f 10 1;level;");
        due("no sentence", x.said(NONE), NONE);
        due("no sentence", x.said(0), NONE);
        x.tilt(2, 1);
        x.hours(3);
        due("lapsed", saidBy(x, "lapsed"), 2);
        due("not lapsed", saidBy(x, "not lapsed"), 5);
        due("run", saidBy(x, "run"), 2);
        due("aslant", saidBy(x, "aslant"), 4);
        due("both", saidBy(x, "both"), 7);
        due("of a", saidBy(x, "of a"), 1);
        due("of d", saidBy(x, "of d"), 2);
        due("of i", saidBy(x, "of i"), 0);
        due("left", saidBy(x, "left=8"), 1);
        due("left", saidBy(x, "left>7"), 1);
        due("left", saidBy(x, "left<8"), 6);
        due("neck", saidBy(x, "neck>1"), 3);
        due("neck", saidBy(x, "neck<4"), 4);
        due("number", saidBy(x, "number<2"), 3);
        due("number", saidBy(x, "number=2"), 4);
        due("turned", saidBy(x, "turned=0"), 7);
        due("'and' binds more than 'or'", saidBy(x, "number=0 or number=1 and number=2"), 1);
        due("'and' binds more than 'or'", saidBy(x, "number=2 and number=1 or number=0"), 1);
        due("brackets", saidBy(x, "(number=0 or number=1) and (number=1 or number=2)"), 2);
        due("'not' binds most", saidBy(x, "not number=0 and number<2"), 2);
        due("'not' of a bracket", saidBy(x, "not (number=0 and number<2)"), 6);
        due("how many", x.said(NONE), 2);
        due("the first", x.said(0), 1);
        due("the second", x.said(1), 2);
        due("none such", x.said(2), NONE);
        due("none such", x.said(-2), NONE);
        x.hours(3);
        due("lapsed", saidBy(x, "both"), 6);
        x.wake(0);
        due("said of what is so now", x.said(NONE), 3);
        x.tilt(2, 2);
        due("level is not aslant", saidBy(x, "aslant"), 0);
        due("none of them", x.said(NONE), 0);
        x.turn(0);
        x.spill(0, x.glass(0, 4) > 0 ? x.glass(0, 4) : 1);
        x.turn(1);
        due("turned", saidBy(x, "turned>0"), 1);
        x.end(0);
        x.parish();
        due("no sentence in a new parish", x.said(NONE), NONE);
    }

    private static void images() {
        promise(41);
        GlassVows x = parishOf(PARISH);
        due("no such", x.image(2), false);
        due("no such", x.image(-1), false);
        promise(42);
        due("nothing is kept", x.restore(0), false);
        due("no such", x.restore(2), false);
        due("no such", x.restore(-1), false);
        promise(41);
        saidBy(x, "number=1");
        x.wake(0);
        due("kept", x.image(1), true);
        x.hours(30);
        x.tilt(1, 1);
        x.widen(1, 3);
        saidBy(x, "number=0");
        due("kept", x.image(0), true);
        x.watch(1, 60);
        x.banns(0);
        tell(x, "person a 1 1 1;wish 3;");
        x.parish();
        saidBy(x, "run");
        x.hours(4);
        x.feed(1, 2, 3, 4, 5);
        promise(42);
        due("restored", x.restore(1), true);
        due("the tape stays", x.count(8), 20);
        due("what banns() told stays", x.byteAt(0), 'a');
        due("nothing can be undone", x.undo(), NONE);
        x.end(0);
        due("hour", x.now(0), 0);
        due("persons", x.count(0), 4);
        due("wish", x.count(4), 50);
        due("woken", x.person(0, 0), 1);
        due("sentence", x.said(0), 1);
        due("goods", x.parts(0), 9);
        bannsDue(x, 0, "ann and bob for 10");
        promise(42);
        due("restored", x.restore(0), true);
        due("hour", x.now(0), 30);
        due("lapsed", x.now(2), 1);
        due("tilted", x.glass(1, 5), 1);
        due("neck", x.glass(1, 3), 4);
        due("sentence", x.said(0), 0);
        x.hours(5);
        due("again", x.restore(0), true);
        due("the image stays", x.now(0), 30);
        GlassVows y = new GlassVows();
        promise(41);
        due("an empty parish", y.image(0), true);
        tell(y, PARISH);
        y.parish();
        saidBy(y, "run");
        due("restored", y.restore(0), true);
        due("no persons", y.count(0), 0);
        due("no sentence", y.said(NONE), NONE);
    }

    private static void counts() {
        promise(43);
        GlassVows x = parishOf(PARISH + "damp 1 1;early;");
        int[] want = {4, 2, 3, 2, 50, 1, 1, 2, 0};
        for (int what = 0; what < want.length; what++) {
            due("count(" + what + ")", x.count(what), want[what]);
        }
        due("count(9)", x.count(9), NONE);
        due("count(-1)", x.count(-1), NONE);
        x.feed(0, 0, 0, 0, 0);
        due("bytes", x.count(8), 20);
        GlassVows y = parishOf("grace 7;wish 99;");
        due("grace", y.count(3), 7);
        due("wish", y.count(4), 99);
        due("the constant NONE", GlassVows.NONE, -1);
    }

    public static void main(String[] args) {
        aNewObject();
        feedAndEnd();
        parishes();
        faults();
        persons();
        glasses();
        nows();
        turns();
        wakes();
        woos();
        tilts();
        widens();
        spills();
        hoursGo();
        undos();
        undosOfRolls();
        endings();
        watches();
        choicesOfGrains();
        plays();
        steals();
        parting();
        laws();
        ringing();
        togetherness();
        bannsAreRead();
        draws();
        rolls();
        sentences();
        sayings();
        images();
        counts();
        finish("PromiseChecks");
    }
}
