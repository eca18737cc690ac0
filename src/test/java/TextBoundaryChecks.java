/**
 * The boundary cases of the document's ==== 1 (TOKENS, PARISH, ROLL, SENTENCE, FAULTS), sentence by sentence.
 * A text of a FAULT has a '^' where the FAULT is due; it is taken out before the text is told.
 */
public final class TextBoundaryChecks extends Checking {
    private static final String TWO = "person a 0 0 0;person b 0 0 0;";
    private static final String WED = TWO + "glass g a b 9 2;";
    private static final String EIGHT = TWO + "person c 0 0 0;person d 0 0 0;person e 0 0 0;person f 0 0 0;"
            + "person i 0 0 0;person j 0 0 0;";
    private static final String FOUR = EIGHT + "glass g a b 1 1;glass h c d 1 1;glass k e f 1 1;glass l i j 1 1;";
    private static final String[] RESERVED = {"person", "warms", "cools", "glass", "damp", "good", "grace", "wish",
        "early", "level", "turns", "wakes", "woos", "tilts", "widens", "spills", "hour", "or", "and", "not", "lapsed",
        "run", "aslant", "both", "of", "left", "neck", "turned", "number"};

    private static void parishIs(String text, int lines) {
        GlassVows x = new GlassVows();
        tell(x, text);
        due("parish() of '" + text + "'", x.parish(), lines);
        due("fault() of '" + text + "'", x.fault(), 0);
    }

    private static void rollIs(String text, int lines) {
        GlassVows x = parishOf(WED);
        due("roll(0) of '" + text + "'", rollOf(x, text, 0) >= NONE, true);
        due("fault() of '" + text + "'", x.fault(), 0);
        due("rolled(1) of '" + text + "'", x.rolled(1), lines);
    }

    private static void sentenceIs(String text, int ones) {
        GlassVows x = parishOf(WED);
        due("sentence() of '" + text + "'", sentenceOf(x, text), ones);
        due("fault() of '" + text + "'", x.fault(), 0);
    }

    private static String unmarked(String text) {
        due("one mark in " + text, text.indexOf('^') >= 0 && text.indexOf('^') == text.lastIndexOf('^'), true);
        return text.replace("^", "");
    }

    private static void parishFails(String marked, int kind) {
        String text = unmarked(marked);
        GlassVows x = parishOf(WED);
        String before = stateOf(x);
        tell(x, text);
        due("parish() of '" + text + "'", x.parish(), -1 - marked.indexOf('^'));
        due("fault() of '" + text + "'", x.fault(), kind);
        due("the parish behind '" + text + "'", stateOf(x), before);
        due("the tape behind '" + text + "'", x.count(8), 0);
    }

    private static void rollFails(String marked, int kind) {
        rollFails(WED, marked, kind);
    }

    private static void rollFails(String parish, String marked, int kind) {
        String text = unmarked(marked);
        GlassVows x = parishOf(parish);
        String before = stateOf(x);
        for (int lives = 0; lives < 2; lives++) {
            due("roll(" + lives + ") of '" + text + "'", rollOf(x, text, lives), -2 - marked.indexOf('^'));
            due("fault() of '" + text + "'", x.fault(), kind);
            due("the parish behind '" + text + "'", stateOf(x), before);
            due("the tape behind '" + text + "'", x.count(8), 0);
            due("undo() behind '" + text + "'", x.undo(), NONE);
        }
    }

    private static void sentenceFails(String marked, int kind) {
        String text = unmarked(marked);
        GlassVows x = parishOf(WED + "good cow g 1 1;");
        due("a sentence", sentenceOf(x, "number=0"), 1);
        due("sentence() of '" + text + "'", sentenceOf(x, text), -1 - marked.indexOf('^'));
        due("fault() of '" + text + "'", x.fault(), kind);
        due("the sentence behind '" + text + "'", x.said(0), 0);
        due("the tape behind '" + text + "'", x.count(8), 0);
    }

    private static String blanks(int n) {
        return " ".repeat(n);
    }

    private static void tokens() {
        terms("TOKENS of all texts, with blanks (32, 10) between them or not");
        parishIs("early;level;wish 5;", 3);
        parishIs(" \n\n early\n;\nlevel ; \n wish\n5\n;\n", 3);
        for (int sign = 0; sign < 256; sign++) {
            blankOrNot((char) sign);
        }
        rollIs("\nhour\n1\n;a woos 5;g tilts 1 ;\n ", 3);
        sentenceIs("not(run)and(left<5)or\nnumber\n=\n0\n", 6);
        terms("WORDS: small letters, 1 to 7");
        parishIs("person a 0 0 0;person z 0 0 0;person az 0 0 0;person abcdefg 0 0 0;person zzzzzzz 0 0 0;", 5);
        parishFails("person ^abcdefgh 0 0 0;", 1);
        parishFails("person ^zzzzzzzzzzzzzzzzzzzz 0 0 0;", 1);
        parishFails("person ^A 0 0 0;", 1);
        parishFails("person a^B 0 0 0;", 1);
        parishFails("person ^`a 0 0 0;", 1);
        parishFails("person a^{ 0 0 0;", 1);
        parishFails("person a^_b 0 0 0;", 1);
        terms("NUMBERS: 1 to 3 digits");
        parishIs("wish 0;grace 9;", 2);
        parishIs("wish 00;grace 09;", 2);
        parishIs("wish 000;grace 009;", 2);
        parishFails("wish ^0000;", 1);
        parishFails("wish ^0050;", 1);
        parishFails("wish ^1000;", 1);
        parishFails("wish ^4294967300;", 1);
        parishFails("wish ^18446744073709551617;", 1);
        parishFails("wish ^-1;", 1);
        parishFails("wish ^+1;", 1);
        parishFails("wish 5^/;", 1);
        parishFails("wish 5^:;", 1);
        parishFails("wish 5^.;", 1);
        sentenceIs("left<0", 1);
        sentenceIs("left<999", 1);
        sentenceIs("left<000", 1);
        sentenceFails("left<^1000", 1);
        sentenceFails("left<^0000", 1);
        rollIs("hour 001;g tilts 000;", 1);
        rollFails("hour ^0001;", 1);
        terms("A WORD, NUMBER goes on as long as small letters and digits do; what is not as told is no TOKEN.");
        parishFails("^early1;", 1);
        parishFails("^earlylevel;", 1);
        parishFails("^5early;", 1);
        parishFails("person ^a1 0 0 0;", 1);
        parishFails("person ^1a 0 0 0;", 1);
        parishFails("person a 0 0 ^0x;", 1);
        parishFails("wish ^5x;", 1);
        parishFails("wish ^1x1;", 1);
        rollFails("^hour1;", 1);
        rollFails("a ^woos5;", 1);
        rollFails("hour ^1hour;", 1);
        sentenceFails("left<^5or run", 1);
        sentenceFails("^notrun", 1);
        sentenceFails("^run1", 1);
        sentenceFails("of ^a1", 1);
    }

    /** One byte between 'early' and ';' is a blank, a TOKEN that can't come, or none. */
    private static void blankOrNot(char sign) {
        String text = "early" + sign + ";";
        boolean goesOn = sign >= 'a' && sign <= 'z' || sign >= '0' && sign <= '9';
        if (sign == ' ' || sign == '\n') {
            parishIs(text, 1);
            return;
        }
        GlassVows x = new GlassVows();
        tell(x, text);
        due("parish() with byte " + (int) sign, x.parish(), sign == ';' ? -7 : goesOn ? -1 : -6);
        due("fault() with byte " + (int) sign, x.fault(), 1);
    }

    private static void persons() {
        terms("A PARISH is a text of at most 900 bytes: { LINE ; }");
        parishIs("", 0);
        parishIs(" \n", 0);
        parishIs("early;", 1);
        parishIs(blanks(894) + "early;", 1);
        parishIs("early" + blanks(894) + ";", 1);
        parishIs("early;" + blanks(894), 1);
        parishFails("early;" + blanks(894) + "^ ", 1);
        parishFails("early;" + blanks(894) + "^" + blanks(40), 1);
        parishFails("^;", 1);
        parishFails("early;^;", 1);
        parishFails("early^", 1);
        parishFails("early;level ^", 1);
        parishFails("early ^level;", 1);
        terms("'person' NAME FROM TO FOND (0 to 23, 0 to 23, 0 to 99)");
        parishIs("person a 0 0 0;person b 23 23 99;", 2);
        GlassVows x = parishOf("person a 0 0 0;person b 23 23 99;");
        due("fond 0", x.person(0, 1), 0);
        due("fond 99", x.person(1, 1), 99);
        parishFails("person a ^24 0 0;", 2);
        parishFails("person a ^999 0 0;", 2);
        parishFails("person a 23 ^24 0;", 2);
        parishFails("person a 23 23 ^100;", 2);
        parishFails("person ^;", 1);
        parishFails("person ^5 0 0 0;", 1);
        parishFails("person a^;", 1);
        parishFails("person a 0^;", 1);
        parishFails("person a 0 0^;", 1);
        parishFails("person a 0 0 0 ^0;", 1);
        parishFails("person a ^b 0 0;", 1);
        terms("( 'warms' | 'cools' ) PERSON N (1 to 9; each PERSON once for each of the two)");
        parishIs(TWO + "warms a 1;cools a 9;cools b 1;warms b 9;", 6);
        parishFails(TWO + "warms a ^0;", 2);
        parishFails(TWO + "warms a ^10;", 2);
        parishFails(TWO + "cools b ^0;", 2);
        parishFails(TWO + "cools b ^10;", 2);
        parishFails(TWO + "warms a 1;warms ^a 1;", 3);
        parishFails(TWO + "warms a 1;warms b 1;cools a 1;cools ^a 1;", 3);
        parishFails(TWO + "warms b 9;cools b 9;warms ^b 9;", 3);
        parishFails(TWO + "warms ^5;", 1);
        parishFails(TWO + "cools a^;", 1);
    }

    private static void glasses() {
        terms("'glass' NAME PERSON PERSON GRAINS NECK (unlike, neither wed by a glass yet; 1 to 250; 1 to 9)");
        parishIs(TWO + "glass g a b 1 1;", 3);
        parishIs(TWO + "glass g b a 250 9;", 3);
        parishFails(TWO + "glass g a b ^0 1;", 2);
        parishFails(TWO + "glass g a b ^251 1;", 2);
        parishFails(TWO + "glass g a b 250 ^0;", 2);
        parishFails(TWO + "glass g a b 250 ^10;", 2);
        parishFails(TWO + "glass g a ^a 1 1;", 3);
        parishFails(TWO + "glass g b ^b 1 1;", 3);
        String wed = WED + "person c 0 0 0;person d 0 0 0;";
        parishIs(wed + "glass h d c 1 1;", 6);
        parishFails(wed + "glass h ^a c 1 1;", 3);
        parishFails(wed + "glass h ^b c 1 1;", 3);
        parishFails(wed + "glass h c ^a 1 1;", 3);
        parishFails(wed + "glass h c ^b 1 1;", 3);
        parishFails(wed + "glass h ^a a 1 1;", 3);
        parishFails(TWO + "glass g a ^5 1 1;", 1);
        parishFails(TWO + "glass g a b^;", 1);
        parishFails(TWO + "glass g a b 1^;", 1);
        terms("'damp' FROM TO (0 to 599; FROM to 599: HOURS)");
        parishIs("damp 0 0;damp 599 599;damp 0 599;damp 7 7;", 4);
        parishFails("damp ^600 600;", 2);
        parishFails("damp 599 ^600;", 2);
        parishFails("damp 599 ^598;", 2);
        parishFails("damp 1 ^0;", 2);
        parishFails("damp 1^;", 1);
        GlassVows y = parishOf("damp 11 11;damp 9 9;damp 7 7;damp 5 5;damp 3 3;damp 1 1;");
        for (int h = 0; h < 13; h++) {
            due("hour " + h + " is damp", y.now(1), h % 2 == 1 && h < 12 ? 1 : 0);
            y.hours(1);
        }
        terms("'good' NAME GLASS N N (0 to 99 each: what it is worth to the first and to the second of the two)");
        parishIs(WED + "good k g 0 99;good l g 99 0;", 5);
        GlassVows x = parishOf(WED + "good k g 0 99;");
        due("to the first", x.good(0, 1), 0);
        due("to the second", x.good(0, 2), 99);
        parishFails(WED + "good k g ^100 0;", 2);
        parishFails(WED + "good k g 0 ^100;", 2);
        parishFails(WED + "good k ^0 0;", 1);
        parishFails(WED + "good k g 0^;", 1);
    }

    private static void laws() {
        terms("'grace' N (1 to 9; once; 2 without)");
        parishIs("grace 1;", 1);
        parishIs("grace 9;", 1);
        due("1", parishOf("grace 1;").count(3), 1);
        due("9", parishOf("grace 9;").count(3), 9);
        due("without", parishOf("early;").count(3), 2);
        parishFails("grace ^0;", 2);
        parishFails("grace ^10;", 2);
        parishFails("grace 1;^grace 1;", 3);
        terms("'wish' N (0 to 99; once; 50 without)");
        due("0", parishOf("wish 0;").count(4), 0);
        due("99", parishOf("wish 99;").count(4), 99);
        due("without", parishOf("early;").count(4), 50);
        parishFails("wish ^100;", 2);
        parishFails("wish 0;^wish 0;", 3);
        parishFails("wish 50;^wish 50;", 3);
        terms("'early' (once) | 'level' (once)");
        due("early", parishOf("early;").count(5), 1);
        due("level", parishOf("level;").count(6), 1);
        due("not early", parishOf("level;").count(5), 0);
        due("not level", parishOf("early;").count(6), 0);
        parishFails("early;^early;", 3);
        parishFails("level;early;^level;", 3);
        // what was told once in a text that had a FAULT, or in the PARISH before, may be told in the next one
        GlassVows x = parishOf("early;level;grace 1;wish 1;");
        tell(x, "early;level;grace 2;wish 2;wish 2;");
        due("told again", x.parish(), -28);
        tell(x, "early;level;grace 3;wish 3;");
        due("each once", x.parish(), 4);
    }

    private static void names() {
        terms("NAME: a WORD, none of those told here, in a ROLL or a SENTENCE; told once.");
        for (String word : RESERVED) {
            parishFails("person ^" + word + " 0 0 0;", 1);
            parishFails(TWO + "glass ^" + word + " a b 1 1;", 1);
            parishFails(WED + "good ^" + word + " g 1 1;", 1);
            parishFails(TWO + "warms ^" + word + " 1;", 1);
            String near = word.length() < 7 ? word + "x" : word.substring(1);
            parishIs("person " + near + " 0 0 0;", 1);
        }
        for (String word : new String[] {"grain", "grains", "hours", "turn", "woo", "in", "wed", "by", "is", "no"}) {
            parishIs("person " + word + " 0 0 0;", 1);
        }
        parishFails(TWO + "person ^b 0 0 0;", 3);
        parishFails(TWO + "glass ^a a b 1 1;", 3);
        parishFails(WED + "person ^g 0 0 0;", 3);
        parishFails(WED + "person c 0 0 0;person d 0 0 0;glass ^g c d 1 1;", 3);
        parishFails(WED + "good ^a g 1 1;", 3);
        parishFails(WED + "good ^g g 1 1;", 3);
        parishFails(WED + "good k g 1 1;good ^k g 1 1;", 3);
        parishFails(WED + "good k g 1 1;person ^k 0 0 0;", 3);
        parishFails(WED + "person c 0 0 0;person d 0 0 0;good k g 1 1;glass ^k c d 1 1;", 3);
        parishIs("person ab 0 0 0;person b 0 0 0;person aab 0 0 0;person ba 0 0 0;", 4);
        terms("8 PERSONS, 4 GLASSES, 6 'damp', 6 GOODS at most; PERSONS, GLASSES, GOODS numbered from 0 each.");
        parishIs(FOUR, 12);
        parishFails(EIGHT + "^person k 0 0 0;", 4);
        parishFails(FOUR + "^glass m a b 1 1;", 4);
        String goods = FOUR + "good m g 1 6;good n h 2 5;good o k 3 4;good p l 4 3;good q g 5 2;good r g 6 1;";
        parishIs(goods, 18);
        parishFails(goods + "^good s g 1 1;", 4);
        parishIs("damp 1 1;".repeat(6), 6);
        parishFails("damp 1 1;".repeat(6) + "^damp 1 1;", 4);
        GlassVows x = parishOf(goods);
        due("the first person", x.person(0, 2), 0);
        due("the eighth person", x.person(7, 2), 3);
        due("no ninth", personThrows(x, 8, 2), true);
        due("the first glass", x.glass(0, 0), 0);
        due("the fourth glass", x.glass(3, 1), 7);
        due("no fifth", glassThrows(x, 4, 0), true);
        due("the first good", x.good(0, 1), 1);
        due("the sixth good", x.good(5, 1), 6);
        due("no seventh", x.good(6, 1), NONE);
    }

    private static void rolls() {
        terms("A ROLL is a text of at most 400 bytes: { LINE ; }, 40 at most");
        rollIs("", 0);
        rollIs(" \n ", 0);
        rollIs(blanks(393) + "hour 1;", 1);
        rollIs("hour 1;" + blanks(393), 1);
        rollFails("hour 1;" + blanks(393) + "^ ", 1);
        rollFails("hour 1;" + blanks(393) + "^" + blanks(540), 1);
        rollIs("hour 1;".repeat(40), 40);
        rollFails("hour 1;".repeat(40) + "^hour 1;", 4);
        rollFails("^;", 1);
        rollFails("hour 1;^;", 1);
        rollFails("hour 1^", 1);
        rollFails("hour 1 ^hour 1;", 1);
        terms("PERSON ( 'turns' | 'wakes' | 'woos' N ) | GLASS ( 'tilts' K | 'widens' N | 'spills' N ) | 'hour' N");
        rollFails("a ^tilts 1;", 1);
        rollFails("a ^widens 1;", 1);
        rollFails("a ^spills 1;", 1);
        rollFails("g ^turns;", 1);
        rollFails("g ^wakes;", 1);
        rollFails("g ^woos 1;", 1);
        rollFails("a ^hour 1;", 1);
        rollFails("a ^b;", 1);
        rollFails("a^;", 1);
        rollFails("g^", 1);
        rollFails("a turns ^1;", 1);
        rollFails("a wakes ^1;", 1);
        rollFails("a woos^;", 1);
        rollFails("g tilts^;", 1);
        rollFails("g widens ^a;", 1);
        rollFails("g spills^;", 1);
        rollFails("hour^;", 1);
        rollFails("^turns;", 1);
        rollFails("^5;", 1);
        for (String word : RESERVED) {
            if (!word.equals("hour")) {
                rollFails("hour 1;^" + word + " 1;", 1);
            }
        }
        terms("(N of 'woos' 1 to 20, K 0 to 2, N of 'widens' 1 to 8, of 'spills' 1 to 250, of 'hour' 1 to 60)");
        rollIs("a woos 1;a woos 20;", 2);
        rollFails("a woos ^0;", 2);
        rollFails("a woos ^21;", 2);
        rollIs("g tilts 1;g tilts 0;", 2);
        rollIs("g tilts 2;", 0);
        rollFails("g tilts ^3;", 2);
        rollIs("g widens 1;", 1);
        rollIs("g widens 8;", 0);
        rollFails("g widens ^0;", 2);
        rollFails("g widens ^9;", 2);
        rollIs("g spills 1;", 1);
        rollIs("g spills 250;", 0);
        rollFails("g spills ^0;", 2);
        rollFails("g spills ^251;", 2);
        rollIs("hour 1;hour 60;", 2);
        rollFails("hour ^0;", 2);
        rollFails("hour ^61;", 2);
    }

    private static void sentences() {
        terms("A SENTENCE is a text of at most 200 bytes: COND: ALL { 'or' ALL }. ALL: ONE { 'and' ONE }.");
        sentenceIs(blanks(197) + "run", 1);
        sentenceIs("run" + blanks(197), 1);
        sentenceFails("run" + blanks(197) + "^ ", 1);
        sentenceFails("run" + blanks(197) + "^" + blanks(740), 1);
        sentenceFails("^", 1);
        sentenceFails(" \n ^", 1);
        sentenceFails("run ^run", 1);
        sentenceFails("run^;", 1);
        sentenceFails("run and^", 1);
        sentenceFails("run or ^", 1);
        sentenceFails("run or ^and run", 1);
        sentenceFails("run and ^or run", 1);
        sentenceFails("^and run", 1);
        sentenceFails("^or run", 1);
        terms("ONE: 'not' ONE | ( COND ) | 'lapsed' | 'run'");
        sentenceIs("not not run", 3);
        sentenceIs("((run))", 3);
        sentenceIs("not(run or not lapsed)", 5);
        sentenceFails("not^", 1);
        sentenceFails("not ^and run", 1);
        sentenceFails("(^)", 1);
        sentenceFails("(run^", 1);
        sentenceFails("(run or lapsed ^run)", 1);
        sentenceFails("run^)", 1);
        sentenceFails("(run)^)", 1);
        sentenceFails("^)", 1);
        sentenceFails("^5", 1);
        sentenceFails("^a", 1);
        for (String word : RESERVED) {
            if ("not lapsed run aslant both of left neck turned number".indexOf(word) < 0) {
                sentenceFails("^" + word, 1);
            }
        }
        terms("'of' PERSON (one of the two)");
        sentenceFails("of^", 1);
        sentenceFails("of ^5", 1);
        sentenceFails("of ^run", 1);
        sentenceFails("of ^zed", 3);
        sentenceFails("of ^g", 3);
        sentenceFails("of ^cow", 3);
        terms("( 'left' | 'neck' | 'turned' | 'number' ) SIGN NUMBER (how often it was turned so far;"
                + " its number). SIGN: < = >.");
        for (String word : new String[] {"left", "neck", "turned", "number"}) {
            sentenceIs(word + "<0", 1);
            sentenceIs(word + "=1", 1);
            sentenceIs(word + ">999", 1);
            sentenceFails(word + "^", 1);
            sentenceFails(word + " ^5", 1);
            sentenceFails(word + "^(5", 1);
            sentenceFails(word + "^;5", 1);
            sentenceFails(word + "<^", 1);
            sentenceFails(word + "<^=5", 1);
            sentenceFails(word + "=^a", 1);
            sentenceFails(word + ">^left", 1);
        }
        terms("20 ONES, 8 within one another.");
        sentenceIs("run" + " or run".repeat(19), 20);
        sentenceIs("run" + " and run".repeat(19), 20);
        sentenceFails("run" + " or run".repeat(19) + " or ^run", 4);
        sentenceFails("run" + " and run".repeat(19) + " and ^not run", 4);
        sentenceFails("run" + " and run".repeat(19) + " and ^(run)", 4);
        sentenceFails("run" + " or run".repeat(18) + " or not ^run", 4);
        sentenceFails("run" + " or run".repeat(18) + " or (^left<5)", 4);
        sentenceFails("run" + " or run".repeat(19) + " or ^of zed", 4);
        sentenceIs("not ".repeat(7) + "run", 8);
        sentenceIs("(".repeat(7) + "run" + ")".repeat(7), 8);
        sentenceIs("not(not(not(not run)or run))and run", 10);
        sentenceIs("(".repeat(7) + "run and run or run" + ")".repeat(7) + " and not run", 12);
        sentenceFails("not ".repeat(8) + "^run", 4);
        sentenceFails("not ".repeat(8) + "^not run", 4);
        sentenceFails("(".repeat(8) + "^run" + ")".repeat(8), 4);
        sentenceFails("(".repeat(8) + "^((", 4);
        sentenceFails("run or " + "not(".repeat(4) + "^run))))", 4);
    }

    private static void faultsInOrder() {
        terms("FAULTS, the first along the text, of one TOKEN the least");
        parishFails("wish ^100;wish 5;early early", 2);
        parishFails("person a 0 0 0;person ^a 24 0 0;", 3);
        parishFails(EIGHT + "^person early 99 99 999;", 4);
        parishFails("early;^early early;", 3);
        parishFails("wish 5;^wish 1000;", 3);
        rollFails("hour ^61;zed turns;", 2);
        rollFails("^zed turns;hour 61;.", 3);
        rollFails("hour 1;".repeat(40) + "^a turns;", 4);
        rollFails("hour 1;".repeat(40) + "^g tilts;", 4);
        rollFails("hour 1;".repeat(40) + "^zed turns;", 3);
        rollFails("hour 1;".repeat(40) + "^early;", 1);
        rollFails("hour 1;".repeat(40) + "^hours;", 3);
        rollFails("hour 1;".repeat(40) + "^hourhour;", 1);
        rollFails("hour 1;".repeat(40) + "^;", 1);
        rollFails("hour 1;".repeat(40) + "^.", 1);
        sentenceFails("of ^zed and of 5", 3);
        sentenceFails("run" + " or run".repeat(19) + " or ^zed", 1);
        sentenceFails("run" + " or run".repeat(19) + " or ^", 1);
        sentenceFails("run" + " or run".repeat(19) + " or ^)", 1);
        sentenceFails("not ".repeat(8) + "^or", 1);
        sentenceFails("not ".repeat(8) + "^.", 1);
        terms("1 no TOKEN, or one that can't come (at it; the end: how many bytes there are; ");
        parishFails("early;level^", 1);
        parishFails("early;level \n ^", 1);
        parishFails("person a 0 0 ^", 1);
        parishFails("early;^.", 1);
        parishFails("early;^?", 1);
        parishFails("early;^(", 1);
        parishFails("early;^<", 1);
        parishFails("early;^zed;", 1);
        parishFails("early;^turns;", 1);
        parishFails("early^" + (char) 160 + ";", 1);
        parishFails("early" + blanks(895) + "^", 1);
        rollFails("hour 1" + blanks(394) + "^", 1);
        sentenceFails("run or" + blanks(194) + "^", 1);
        textsTooLong();
        terms("2 a NUMBER that is not as told (at it)");
        parishFails("person a 0 0 0;warms a  ^10;", 2);
        parishFails("damp 5\n^4;", 2);
        rollFails("g spills   ^251;", 2);
    }

    private static void textsTooLong() {
        terms("the most bytes told, if there are more and no FAULT is ahead: TOKENS that begin ahead of it are read "
                + "whole)");
        parishFails(blanks(900) + "^ ", 1);
        parishFails(blanks(895) + "early^;", 1);
        parishFails(blanks(894) + "early;^e", 1);
        parishFails(blanks(894) + "early;^.", 1);
        parishFails(blanks(899) + "e^arly;", 1);
        parishFails(blanks(899) + "^earlyx;", 1);
        parishFails(blanks(899) + "^zed;", 1);
        parishFails("early;" + blanks(893) + "^early;", 3);
        parishFails("early;" + blanks(894) + "^early;", 1);
        parishFails("wish" + blanks(895) + "^100;", 2);
        parishFails("wish" + blanks(895) + "^1000;", 1);
        parishFails("wish" + blanks(895) + "9^9;", 1);
        parishFails("wish" + blanks(896) + "^100;", 1);
        parishFails("early;^early;" + blanks(900), 3);
        parishFails("early^." + blanks(900), 1);
        parishFails(TWO + "warms" + blanks(864) + "^zed 1;", 3);
        parishFails(TWO + "warms" + blanks(865) + "^zed 1;", 1);
        rollFails(blanks(394) + "hour 1^;", 1);
        rollFails(blanks(393) + "hour 1;^h", 1);
        rollFails(blanks(399) + "h^our 1;", 1);
        rollFails(blanks(399) + "^hours 1;", 3);
        rollFails(blanks(400) + "^zed 1;", 1);
        rollFails("hour" + blanks(395) + "^61;", 2);
        rollFails("hour" + blanks(396) + "^61;", 1);
        rollFails("hour 1;".repeat(40) + blanks(119) + "^hour 1;", 4);
        rollFails("hour 1;".repeat(40) + blanks(120) + "^hour 1;", 1);
        sentenceFails(blanks(197) + "run^ ", 1);
        sentenceFails(blanks(199) + "r^un", 1);
        sentenceFails(blanks(199) + "^runs", 1);
        sentenceFails("of" + blanks(197) + "^zed", 3);
        sentenceFails("of" + blanks(198) + "^zed", 1);
        sentenceFails("run or" + blanks(194) + "^run", 1);
    }

    private static void faultsOfNames() {
        terms("3 a NAME told twice, not told, or of another sort, two alike that must be unlike (at the second), a "
                + "PERSON who is wed already, or told again (at it), what is told once told again (at the WORD)");
        parishFails("warms ^a 1;person a 0 0 0;", 3);
        parishFails(TWO + "warms ^zed 1;", 3);
        parishFails(WED + "cools ^g 1;", 3);
        parishFails(WED + "good k g 1 1;warms ^k 1;", 3);
        parishFails(WED + "good k ^a 1 1;", 3);
        parishFails(WED + "good k ^k 1 1;", 3);
        parishFails(WED + "good k g 1 1;good l ^k 1 1;", 3);
        parishFails(TWO + "good k ^g 1 1;glass g a b 1 1;", 3);
        parishFails(TWO + "glass g ^g a 1 1;", 3);
        parishFails(TWO + "glass g a ^g 1 1;", 3);
        parishFails(TWO + "glass g a ^a 0 0;", 3);
        parishFails(WED + "person c 0 0 0;glass h ^a zed 1 1;", 3);
        parishFails("level;\n ^level", 3);
        // names of the PARISH that is there are not told in the next one
        parishIs("person g 0 0 0;person b 0 0 0;glass a g b 1 1;", 3);
        GlassVows x = parishOf(WED);
        tell(x, "warms a 1;");
        due("told in the parish before alone", x.parish(), -7);
        String told = WED + "good k g 1 1;";
        rollFails(told, "^zed turns;", 3);
        rollFails(told, "^k turns;", 3);
        rollFails(told, "^k 5;", 3);
        // ROLL and SENTENCE go by the PARISH that is there, not by one that had a FAULT
        tell(x, "person a 0 0 0;person zed 0 0 0;person");
        due("a fault", x.parish(), -39);
        due("zed is not told", rollOf(x, "zed turns;", 0), -2);
        due("zed is not told", sentenceOf(x, "of zed"), -4);
        due("b still is", sentenceOf(x, "of b"), 1);
        terms("4 one more than there may be of a sort, a 41st LINE of a ROLL (at the LINE's first WORD), a 21st ONE, "
                + "a ninth within (at its first TOKEN)");
        parishFails(EIGHT + " \n ^person", 4);
        parishFails(FOUR + "early; ^glass", 4);
        parishFails("damp 0 1;".repeat(6) + "early;^damp 600 0;", 4);
        rollFails("hour 1;".repeat(40) + " \n ^b", 4);
        sentenceFails("(".repeat(7) + "run" + ")".repeat(7) + " or " + "(".repeat(7) + "run or run" + ")".repeat(7)
                + " or not not not ^not run", 4);
        // what is one too many of one kind is no FAULT of another
        parishIs(EIGHT + "damp 0 1;".repeat(6) + "early;level;grace 2;wish 2;", 18);
    }

    public static void main(String[] args) {
        tokens();
        persons();
        glasses();
        laws();
        names();
        rolls();
        sentences();
        faultsInOrder();
        faultsOfNames();
        finish("TextBoundaryChecks");
    }
}
