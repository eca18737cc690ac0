import java.util.NoSuchElementException;

/**
 * A parish whose couples are wed by sand-glasses, as ../shared/DOC.md tells it.
 * All rows are made in the constructors and used again, so that no call makes objects.
 */
public final class GlassVows {
    public static final int NONE = -1;

    private static final int MOST_PERSONS = 8;
    private static final int MOST_GLASSES = 4;
    private static final int MOST_DAMPS = 6;
    private static final int MOST_GOODS = 6;
    private static final int MOST_FOND = 99;
    private static final int MOST_GRAINS = 250;
    private static final int MOST_NECK = 9;
    private static final int MOST_GRACE = 9;
    private static final int MOST_HOURS = 60;
    private static final int ALL_OVER = 600;
    private static final int DAY = 24;
    private static final int IMAGES = 2;

    private final Tape tape = new Tape();
    private final Parish parish = new Parish();
    private final Parish draft = new Parish();
    private final ParishReader reader = new ParishReader(tape, draft);
    private final Life life = new Life(parish);
    private final Life trial = new Life(parish);
    private final Undo past = new Undo(parish);
    private final Forecast outlook = new Forecast(parish, life);
    private final Watch vigil = new Watch(outlook);
    private final Roll ledger = new Roll(tape, parish);
    private final Sentence saying = new Sentence();
    private final Sentence newSaying = new Sentence();
    private final Parish[] keptParish = new Parish[IMAGES];
    private final Life[] keptLife = new Life[IMAGES];
    private final Sentence[] keptSaying = new Sentence[IMAGES];
    private final boolean[] isKept = new boolean[IMAGES];
    private final StringBuilder notice = new StringBuilder();
    private int lastFault;

    public GlassVows() {
        for (int k = 0; k < IMAGES; k++) {
            keptParish[k] = new Parish();
            keptLife[k] = new Life(parish);
            keptSaying[k] = new Sentence();
        }
    }

    // ---- the tape and the parish ----

    public int feed(int a, int b, int c, int d, int e) {
        if (!tape.hasRoom()) {
            return NONE;
        }
        tape.append(a);
        tape.append(b);
        tape.append(c);
        tape.append(d);
        tape.append(e);
        return tape.size;
    }

    public boolean end(int n) {
        if (n < 0 || n > tape.size) {
            return false;
        }
        tape.size = n;
        return true;
    }

    public int parish() {
        int lines = reader.read();
        lastFault = tape.fault;
        tape.size = 0;
        if (lines >= 0) {
            parish.copyFrom(draft);
            life.begin();
            saying.forget();
            past.forget();
        }
        return lines;
    }

    public int fault() {
        return lastFault;
    }

    // ---- what is so ----

    public int person(int p, int what) throws NoSuchElementException {
        if (!parish.hasPerson(p)) {
            throw new NoSuchElementException("no such person");
        }
        switch (what) {
            case 0:
                return asNumber(life.isAwake(p));
            case 1:
                return life.fond[p];
            case 2:
                return parish.glassOf(p);
            case 3:
                return parish.otherOf(p);
            case 4:
                return life.turns[p];
            case 5:
                return asNumber(life.isWilling(p));
            default:
                throw new NoSuchElementException("no such thing of a person");
        }
    }

    public int glass(int g, int what) throws NoSuchElementException {
        if (!parish.hasGlass(g)) {
            throw new NoSuchElementException("no such glass");
        }
        switch (what) {
            case 0:
                return parish.first[g];
            case 1:
                return parish.second[g];
            case 2:
                return parish.grains[g];
            case 3:
                return life.neck[g];
            case 4:
                return life.left[g];
            case 5:
                return life.tilted[g];
            case 6:
                return asNumber(life.isLapsed(g));
            case 7:
                return life.waited[g];
            case 8:
                return life.turned[g];
            case 9:
                return life.isLapsed(g) || life.hour >= ALL_OVER ? 0 : life.runsAt(g, life.hour);
            default:
                throw new NoSuchElementException("no such thing of a glass");
        }
    }

    public int now(int what) {
        switch (what) {
            case 0:
                return life.hour;
            case 1:
                return asNumber(parish.isDamp(life.hour));
            case 2:
                return life.lapsed;
            case 3:
                return life.awakeBits();
            case 4:
                return life.sumOverGlasses(life.turned);
            case 5:
                return life.sumOverGlasses(life.left);
            default:
                return NONE;
        }
    }

    public int count(int what) {
        switch (what) {
            case 0:
                return parish.persons;
            case 1:
                return parish.glasses;
            case 2:
                return parish.goods.size;
            case 3:
                return parish.grace;
            case 4:
                return parish.wish;
            case 5:
                return asNumber(parish.early);
            case 6:
                return asNumber(parish.level);
            case 7:
                return parish.damps;
            case 8:
                return tape.size;
            default:
                return NONE;
        }
    }

    private static int asNumber(boolean yes) {
        return yes ? 1 : 0;
    }

    private static boolean isFrom(int least, int most, int n) {
        return n >= least && n <= most;
    }

    // ---- acts ----

    public int turn(int p) {
        return parish.hasPerson(p) ? attempt(Life.TURN, p, 0) : NONE;
    }

    public int wake(int p) {
        return parish.hasPerson(p) ? attempt(Life.WAKE, p, 0) : NONE;
    }

    public int woo(int p, int n) {
        return parish.hasPerson(p) && isFrom(1, Life.MOST_WOOING, n) ? attempt(Life.WOO, p, n) : NONE;
    }

    public int tilt(int g, int k) {
        return parish.hasGlass(g) && isFrom(0, Life.LEVEL, k) ? attempt(Life.TILT, g, k) : NONE;
    }

    public int widen(int g, int n) {
        return parish.hasGlass(g) && isFrom(1, Life.MOST_WIDENING, n) ? attempt(Life.WIDEN, g, n) : NONE;
    }

    public int spill(int g, int n) {
        return parish.hasGlass(g) && isFrom(1, MOST_GRAINS, n) ? attempt(Life.SPILL, g, n) : NONE;
    }

    private int attempt(int act, int who, int n) {
        int why = life.whyNot(act, who, n);
        if (why == 0) {
            past.keep(life);
            life.carryOut(act, who, n);
        }
        return why;
    }

    public int hours(int n) {
        if (!isFrom(1, MOST_HOURS, n)) {
            return NONE;
        }
        int gone = life.hoursOf(n);
        if (gone > 0) {
            past.keep(life);
            life.passHours(gone);
        }
        return gone;
    }

    public int undo() {
        return past.takeBack(life);
    }

    // ---- what would go on ----

    private boolean isRunning(int g) {
        return parish.hasGlass(g) && !life.isLapsed(g);
    }

    public int ends(int g) {
        return isRunning(g) ? endOf(g) : NONE;
    }

    private int endOf(int g) {
        outlook.look(g);
        int hour = outlook.endNow();
        return hour < ALL_OVER ? hour : NONE;
    }

    public int lapses(int g) {
        return isRunning(g) ? lapseOf(g) : NONE;
    }

    private int lapseOf(int g) {
        outlook.look(g);
        return outlook.lapseHour(life.left[g], parish.grace, ALL_OVER);
    }

    public int soonest() {
        int soonestGlass = NONE;
        int soonestHour = ALL_OVER;
        for (int g = 0; g < parish.glasses; g++) {
            int hour = life.isLapsed(g) ? NONE : lapseOf(g);
            if (hour != NONE && hour < soonestHour) {
                soonestGlass = g;
                soonestHour = hour;
            }
        }
        return soonestGlass;
    }

    public int watch(int g, int n) {
        if (!isRunning(g) || !isFrom(1, MOST_HOURS, n)) {
            return NONE;
        }
        outlook.look(g);
        return vigil.keepFor(life.hoursOf(n));
    }

    public int waking(int k) {
        return vigil.wakingAt(k);
    }

    public int chosen(int g) {
        if (!isRunning(g)) {
            return NONE;
        }
        outlook.look(g);
        outlook.weighGrains();
        return outlook.mostChoice;
    }

    public int choices(int g) {
        if (!isRunning(g)) {
            return NONE;
        }
        outlook.look(g);
        outlook.weighGrains();
        return outlook.choiceSum;
    }

    public int play(int g) {
        if (!isRunning(g)) {
            return NONE;
        }
        outlook.look(g);
        outlook.findLastTurner();
        return outlook.lastTurner;
    }

    public int playAt(int g) {
        if (!isRunning(g)) {
            return NONE;
        }
        outlook.look(g);
        outlook.findLastTurner();
        return outlook.lastTurnHour;
    }

    public int steal(int g, int h) {
        if (!isRunning(g) || h <= life.hour || h > ALL_OVER) {
            return NONE;
        }
        outlook.look(g);
        for (int spilt = 0; spilt <= life.left[g]; spilt++) {
            if (outlook.lapseHour(life.left[g] - spilt, parish.grace, h) != NONE) {
                return spilt;
            }
        }
        return NONE;
    }

    public int law(int set, int n) {
        if (set < 0 || set >= 1 << parish.glasses || !isFrom(1, MOST_HOURS, n) || (set & life.lapsed) != 0) {
            return NONE;
        }
        int least = 1;
        for (int g = 0; g < parish.glasses; g++) {
            if ((set >> g & 1) == 1) {
                least = leastGrace(g, n, least);
            }
        }
        return least <= MOST_GRACE ? least : NONE;
    }

    /** A greater grace never makes a glass lapse sooner, so each glass may begin where the last one stopped. */
    private int leastGrace(int g, int n, int from) {
        outlook.look(g);
        int until = life.hour + life.hoursOf(n);
        int grace = from;
        while (grace <= MOST_GRACE && outlook.lapseHour(life.left[g], grace, until) != NONE) {
            grace++;
        }
        return grace;
    }

    public int together(int g, int n) {
        if (!parish.hasGlass(g) || !isFrom(1, MOST_HOURS, n)) {
            return NONE;
        }
        int sum = 0;
        int until = life.hour + life.hoursOf(n);
        for (int h = life.hour; h < until; h++) {
            if (parish.isUp(parish.first[g], h) && parish.isUp(parish.second[g], h)) {
                sum++;
            }
        }
        return sum;
    }

    // ---- goods, rings, banns ----

    public int parts(int g) {
        return parish.hasGlass(g) ? parish.goods.lesserSum(g, parish.goods.bestParting(g)) : NONE;
    }

    public int parted(int g) {
        return parish.hasGlass(g) ? parish.goods.bestParting(g) : NONE;
    }

    public int good(int k, int what) {
        if (k < 0 || k >= parish.goods.size) {
            return NONE;
        }
        switch (what) {
            case 0:
                return parish.goods.ofGlass[k];
            case 1:
                return parish.goods.toFirst[k];
            case 2:
                return parish.goods.toSecond[k];
            default:
                return NONE;
        }
    }

    public int rings(int g) {
        int told = tape.size == 1 ? tape.firstByte() : NONE;
        tape.size = 0;
        return told != NONE && isRunning(g) ? ringBits(g, told) : NONE;
    }

    private int ringBits(int g, int told) {
        int bits = 0;
        int sand = parish.grains[g];
        for (int ago = 0; ago <= DAY && ago <= life.hour; ago++) {
            if (ago > 0) {
                sand = Math.max(0, sand - life.runsAt(g, life.hour - ago));
            }
            if (sand == told) {
                bits |= 1 << ago;
            }
        }
        return bits;
    }

    public int banns(int g) {
        if (!parish.hasGlass(g)) {
            return NONE;
        }
        notice.setLength(0);
        appendName(parish.personNames[parish.first[g]]);
        notice.append(" and ");
        appendName(parish.personNames[parish.second[g]]);
        appendTerm(g);
        return notice.length();
    }

    private void appendName(long name) {
        for (int shift = Word.MOST_LETTERS - 1; shift >= 0; shift--) {
            int letter = (int) (name >> shift * Word.LETTER_BITS) & Word.LETTER_MASK;
            if (letter > 0) {
                notice.append((char) (letter + 'a' - 1));
            }
        }
    }

    private void appendTerm(int g) {
        if (life.isLapsed(g)) {
            notice.append(" no more");
            return;
        }
        int hour = endOf(g);
        if (hour == NONE) {
            notice.append(" for good");
            return;
        }
        notice.append(" for ");
        notice.append(hour - life.hour);
    }

    public int byteAt(int i) {
        return i >= 0 && i < notice.length() ? notice.charAt(i) : NONE;
    }

    // ---- draws ----

    public int drawn(int n, int seed) {
        if (!isFrom(1, MOST_HOURS, n) || parish.persons == 0) {
            return NONE;
        }
        int gone = life.hoursOf(n);
        if (gone > 0) {
            past.keep(life);
            life.drawHours(gone, seed);
        }
        return gone;
    }

    public int odds(int g, int n, int seed) {
        if (!parish.hasGlass(g) || !isFrom(1, 30, n)) {
            return NONE;
        }
        int sum = 0;
        for (int k = 0; k < n; k++) {
            trial.copyFrom(life);
            trial.drawHours(trial.hoursOf(2 * DAY), seed + k);
            if (!trial.isLapsed(g)) {
                sum++;
            }
        }
        return sum;
    }

    // ---- roll and sentence ----

    public int roll(int lives) {
        if (lives != 0 && lives != 1) {
            return -1000;
        }
        boolean isRead = ledger.read();
        lastFault = tape.fault;
        tape.size = 0;
        if (!isRead) {
            return -2 - tape.faultPlace;
        }
        trial.copyFrom(life);
        int wrongLine = ledger.judge(trial);
        // a ROLL whose first LINE is WRONG, or that has none, is not lived: there is nothing of it to undo
        if (lives == 1 && ledger.rightLines > 0) {
            past.keep(life);
            life.copyFrom(trial);
        }
        return wrongLine;
    }

    public int rolled(int what) {
        return ledger.told(what);
    }

    public int sentence() {
        boolean isRead = newSaying.read(tape, parish);
        lastFault = tape.fault;
        tape.size = 0;
        if (!isRead) {
            return -1 - tape.faultPlace;
        }
        saying.copyFrom(newSaying);
        return saying.ones;
    }

    public int said(int k) {
        if (saying.ones == 0) {
            return NONE;
        }
        int sum = 0;
        for (int g = 0; g < parish.glasses; g++) {
            if (saying.holds(life, parish, g)) {
                if (sum == k) {
                    return g;
                }
                sum++;
            }
        }
        return k == NONE ? sum : NONE;
    }

    // ---- images ----

    public boolean image(int k) {
        if (k < 0 || k >= IMAGES) {
            return false;
        }
        keptParish[k].copyFrom(parish);
        keptLife[k].copyFrom(life);
        keptSaying[k].copyFrom(saying);
        isKept[k] = true;
        return true;
    }

    public boolean restore(int k) {
        if (k < 0 || k >= IMAGES || !isKept[k]) {
            return false;
        }
        parish.copyFrom(keptParish[k]);
        life.copyFrom(keptLife[k]);
        saying.copyFrom(keptSaying[k]);
        past.forget();
        return true;
    }

    /** The words that no NAME may be; NO stands for a TOKEN that is no WORD, NAME for any other WORD. */
    private enum Word {
        NO(""), NAME(""),
        PERSON("person"), WARMS("warms"), COOLS("cools"), GLASS("glass"), DAMP("damp"), GOOD("good"),
        GRACE("grace"), WISH("wish"), EARLY("early"), LEVEL("level"),
        TURNS("turns"), WAKES("wakes"), WOOS("woos"), TILTS("tilts"), WIDENS("widens"), SPILLS("spills"),
        HOUR("hour"),
        OR("or"), AND("and"), NOT("not"), LAPSED("lapsed"), RUN("run"), ASLANT("aslant"), BOTH("both"), OF("of"),
        LEFT("left"), NECK("neck"), TURNED("turned"), NUMBER("number");

        static final int MOST_LETTERS = 7;
        static final int LETTER_BITS = 5;
        static final int LETTER_MASK = 31;
        private static final Word[] ALL = values();

        /** A WORD's letters fit into one long, so that names are held and likened without texts. */
        private final long code;

        Word(String text) {
            long sum = 0;
            for (int i = 0; i < text.length(); i++) {
                sum = sum << LETTER_BITS | (text.charAt(i) - 'a' + 1);
            }
            code = sum;
        }

        static Word of(long code) {
            for (int i = 0; i < ALL.length; i++) {
                if (ALL[i].code == code) {
                    return ALL[i];
                }
            }
            return NAME;
        }
    }

    /** The bytes that were fed, and the TOKEN at which a reader of them stands. */
    private static final class Tape {
        static final int MOST_BYTES = 940;
        static final int FED = 20;
        static final int END = 0;
        static final int BAD = 1;
        static final int WORD = 2;
        static final int NUMBER = 3;

        static final int CANNOT_COME = 1;
        static final int NOT_IN_RANGE = 2;
        static final int WRONG_NAME = 3;
        static final int TOO_MANY = 4;

        private final byte[] bytes = new byte[MOST_BYTES];
        int size;
        private int limit;
        private int at;
        /** END, BAD, WORD, NUMBER, or the sign itself. */
        int kind;
        int place;
        int number;
        long code;
        Word word = Word.NO;
        int fault;
        int faultPlace;

        boolean hasRoom() {
            return size + FED <= MOST_BYTES;
        }

        void append(int n) {
            for (int shift = 24; shift >= 0 && size < MOST_BYTES; shift -= 8) {
                bytes[size] = (byte) (n >> shift);
                size++;
            }
        }

        int firstByte() {
            return bytes[0] & 255;
        }

        void begin(int mostBytes) {
            limit = mostBytes;
            at = 0;
            fault = 0;
            faultPlace = 0;
        }

        boolean fails(int why) {
            fault = why;
            faultPlace = place;
            return false;
        }

        void next() {
            while (at < size && (bytes[at] == ' ' || bytes[at] == '\n')) {
                at++;
            }
            place = at;
            word = Word.NO;
            if (at >= limit && size > limit) {
                kind = BAD;
                place = limit;
            } else if (at >= size) {
                kind = END;
            } else if (isSign(bytes[at])) {
                kind = bytes[at];
                at++;
            } else {
                readRun();
                word = kind == WORD ? Word.of(code) : Word.NO;
            }
        }

        private static boolean isSign(int sign) {
            return sign == ';' || sign == '<' || sign == '=' || sign == '>' || sign == '(' || sign == ')';
        }

        private void readRun() {
            int letters = 0;
            int digits = 0;
            code = 0;
            number = 0;
            boolean goesOn = true;
            while (goesOn && at < size) {
                int sign = bytes[at];
                if (sign >= 'a' && sign <= 'z') {
                    letters++;
                    code = code << Word.LETTER_BITS | (sign - 'a' + 1);
                } else if (sign >= '0' && sign <= '9') {
                    digits++;
                    number = number * 10 + sign - '0';
                } else {
                    goesOn = false;
                }
                at = goesOn ? at + 1 : at;
            }
            kind = BAD;
            if (digits == 0 && letters > 0 && letters <= Word.MOST_LETTERS) {
                kind = WORD;
            } else if (letters == 0 && digits > 0 && digits <= 3) {
                kind = NUMBER;
            }
        }

        boolean takeNumber(int least, int most) {
            next();
            if (kind != NUMBER) {
                return fails(CANNOT_COME);
            }
            return number >= least && number <= most || fails(NOT_IN_RANGE);
        }

        boolean takeSemicolon() {
            next();
            return kind == ';' || fails(CANNOT_COME);
        }
    }

    /** What a PARISH's text tells. */
    private static final class Parish {
        final long[] personNames = new long[MOST_PERSONS];
        final int[] from = new int[MOST_PERSONS];
        final int[] to = new int[MOST_PERSONS];
        final int[] fondAtFirst = new int[MOST_PERSONS];
        final int[] warms = new int[MOST_PERSONS];
        final int[] cools = new int[MOST_PERSONS];
        int persons;
        final long[] glassNames = new long[MOST_GLASSES];
        final int[] first = new int[MOST_GLASSES];
        final int[] second = new int[MOST_GLASSES];
        final int[] grains = new int[MOST_GLASSES];
        final int[] neckAtFirst = new int[MOST_GLASSES];
        int glasses;
        /** FROM and TO by turns. */
        final int[] damp = new int[2 * MOST_DAMPS];
        int damps;
        final Goods goods = new Goods();
        int grace = 2;
        int wish = 50;
        boolean early;
        boolean level;

        void forget() {
            persons = 0;
            glasses = 0;
            damps = 0;
            goods.size = 0;
            grace = 2;
            wish = 50;
            early = false;
            level = false;
        }

        void copyFrom(Parish other) {
            System.arraycopy(other.personNames, 0, personNames, 0, MOST_PERSONS);
            System.arraycopy(other.from, 0, from, 0, MOST_PERSONS);
            System.arraycopy(other.to, 0, to, 0, MOST_PERSONS);
            System.arraycopy(other.fondAtFirst, 0, fondAtFirst, 0, MOST_PERSONS);
            System.arraycopy(other.warms, 0, warms, 0, MOST_PERSONS);
            System.arraycopy(other.cools, 0, cools, 0, MOST_PERSONS);
            persons = other.persons;
            System.arraycopy(other.glassNames, 0, glassNames, 0, MOST_GLASSES);
            System.arraycopy(other.first, 0, first, 0, MOST_GLASSES);
            System.arraycopy(other.second, 0, second, 0, MOST_GLASSES);
            System.arraycopy(other.grains, 0, grains, 0, MOST_GLASSES);
            System.arraycopy(other.neckAtFirst, 0, neckAtFirst, 0, MOST_GLASSES);
            glasses = other.glasses;
            System.arraycopy(other.damp, 0, damp, 0, 2 * MOST_DAMPS);
            damps = other.damps;
            goods.copyFrom(other.goods);
            grace = other.grace;
            wish = other.wish;
            early = other.early;
            level = other.level;
        }

        boolean hasPerson(int p) {
            return p >= 0 && p < persons;
        }

        boolean hasGlass(int g) {
            return g >= 0 && g < glasses;
        }

        int personNamed(long name) {
            return placeOf(personNames, persons, name);
        }

        int glassNamed(long name) {
            return placeOf(glassNames, glasses, name);
        }

        boolean isTold(long name) {
            return personNamed(name) != NONE || glassNamed(name) != NONE
                    || placeOf(goods.names, goods.size, name) != NONE;
        }

        private static int placeOf(long[] names, int size, long name) {
            for (int i = 0; i < size && i < names.length; i++) {
                if (names[i] == name) {
                    return i;
                }
            }
            return NONE;
        }

        int glassOf(int p) {
            for (int g = 0; g < glasses; g++) {
                if (first[g] == p || second[g] == p) {
                    return g;
                }
            }
            return NONE;
        }

        int otherOf(int p) {
            int g = glassOf(p);
            if (!hasGlass(g)) {
                return NONE;
            }
            return first[g] == p ? second[g] : first[g];
        }

        boolean isDamp(int hour) {
            for (int i = 0; i < damps; i++) {
                if (hour >= damp[2 * i] && hour <= damp[2 * i + 1]) {
                    return true;
                }
            }
            return false;
        }

        /** AWAKE by FROM and TO alone: who was WOKEN is not looked at. */
        boolean isUp(int p, int hour) {
            int rest = hour % DAY;
            if (from[p] == to[p]) {
                return true;
            }
            if (to[p] < from[p]) {
                return rest >= from[p] || rest < to[p];
            }
            return rest >= from[p] && rest < to[p];
        }

        int fondNextDay(int p, int fond) {
            int warmer = Math.min(MOST_FOND, fond + warms[p]);
            return Math.max(0, warmer - cools[p]);
        }
    }

    /** The GOODS of all GLASSES, and how those of one are parted. */
    private static final class Goods {
        final long[] names = new long[MOST_GOODS];
        final int[] ofGlass = new int[MOST_GOODS];
        final int[] toFirst = new int[MOST_GOODS];
        final int[] toSecond = new int[MOST_GOODS];
        int size;

        void copyFrom(Goods other) {
            System.arraycopy(other.names, 0, names, 0, MOST_GOODS);
            System.arraycopy(other.ofGlass, 0, ofGlass, 0, MOST_GOODS);
            System.arraycopy(other.toFirst, 0, toFirst, 0, MOST_GOODS);
            System.arraycopy(other.toSecond, 0, toSecond, 0, MOST_GOODS);
            size = other.size;
        }

        private int allOf(int g) {
            int bits = 0;
            for (int k = 0; k < size; k++) {
                if (ofGlass[k] == g) {
                    bits |= 1 << k;
                }
            }
            return bits;
        }

        int bestParting(int g) {
            int all = allOf(g);
            int best = 0;
            int bestSum = NONE;
            for (int bits = 0; bits < 1 << size; bits++) {
                int sum = (bits & ~all) == 0 ? lesserSum(g, bits) : NONE;
                if (sum > bestSum) {
                    best = bits;
                    bestSum = sum;
                }
            }
            return best;
        }

        int lesserSum(int g, int bitsOfFirst) {
            int firstSum = 0;
            int secondSum = 0;
            for (int k = 0; k < size; k++) {
                if (ofGlass[k] == g) {
                    if ((bitsOfFirst >> k & 1) == 1) {
                        firstSum += toFirst[k];
                    } else {
                        secondSum += toSecond[k];
                    }
                }
            }
            return Math.min(firstSum, secondSum);
        }
    }

    /** Reads a PARISH's text into a draft, so that a FAULT leaves the PARISH as it is. */
    private static final class ParishReader {
        private static final int MOST_TEXT = 900;

        private final Tape tape;
        private final Parish draft;
        private boolean isGraceTold;
        private boolean isWishTold;

        ParishReader(Tape tape, Parish draft) {
            this.tape = tape;
            this.draft = draft;
        }

        /** How many LINES, or -1 less the place of a FAULT. */
        int read() {
            draft.forget();
            isGraceTold = false;
            isWishTold = false;
            tape.begin(MOST_TEXT);
            int lines = 0;
            tape.next();
            while (tape.kind != Tape.END && lines < MOST_TEXT) {
                if (!readLine() || !tape.takeSemicolon()) {
                    return -1 - tape.faultPlace;
                }
                lines++;
                tape.next();
            }
            return lines;
        }

        private boolean readLine() {
            switch (tape.word) {
                case PERSON:
                    return readPerson();
                case WARMS:
                    return readWarmth(draft.warms);
                case COOLS:
                    return readWarmth(draft.cools);
                case GLASS:
                    return readGlass();
                case DAMP:
                    return readDamp();
                case GOOD:
                    return readGood();
                case GRACE:
                    return readGrace();
                case WISH:
                    return readWish();
                case EARLY:
                    return readEarly();
                case LEVEL:
                    return readLevel();
                default:
                    return tape.fails(Tape.CANNOT_COME);
            }
        }

        private boolean takeNewName() {
            tape.next();
            if (tape.word != Word.NAME) {
                return tape.fails(Tape.CANNOT_COME);
            }
            return !draft.isTold(tape.code) || tape.fails(Tape.WRONG_NAME);
        }

        /** The PERSON told next, or NONE and a FAULT. */
        private int takePerson() {
            tape.next();
            if (tape.word != Word.NAME) {
                tape.fails(Tape.CANNOT_COME);
                return NONE;
            }
            int p = draft.personNamed(tape.code);
            if (p == NONE) {
                tape.fails(Tape.WRONG_NAME);
            }
            return p;
        }

        private boolean readPerson() {
            int p = draft.persons;
            if (p >= MOST_PERSONS) {
                return tape.fails(Tape.TOO_MANY);
            }
            if (!takeNewName()) {
                return false;
            }
            draft.personNames[p] = tape.code;
            if (!tape.takeNumber(0, DAY - 1)) {
                return false;
            }
            draft.from[p] = tape.number;
            if (!tape.takeNumber(0, DAY - 1)) {
                return false;
            }
            draft.to[p] = tape.number;
            if (!tape.takeNumber(0, MOST_FOND)) {
                return false;
            }
            draft.fondAtFirst[p] = tape.number;
            draft.warms[p] = 0;
            draft.cools[p] = 0;
            draft.persons++;
            return true;
        }

        /** A row of 0 tells that it is not told yet, since 1 is the least that may be. */
        private boolean readWarmth(int[] row) {
            int p = takePerson();
            if (p == NONE) {
                return false;
            }
            if (row[p] != 0) {
                return tape.fails(Tape.WRONG_NAME);
            }
            if (!tape.takeNumber(1, 9)) {
                return false;
            }
            row[p] = tape.number;
            return true;
        }

        private boolean readGlass() {
            int g = draft.glasses;
            if (g >= MOST_GLASSES) {
                return tape.fails(Tape.TOO_MANY);
            }
            if (!takeNewName()) {
                return false;
            }
            draft.glassNames[g] = tape.code;
            if (!readPair(g) || !tape.takeNumber(1, MOST_GRAINS)) {
                return false;
            }
            draft.grains[g] = tape.number;
            if (!tape.takeNumber(1, MOST_NECK)) {
                return false;
            }
            draft.neckAtFirst[g] = tape.number;
            draft.glasses++;
            return true;
        }

        private boolean readPair(int g) {
            int firstOne = takePerson();
            if (firstOne == NONE) {
                return false;
            }
            if (draft.glassOf(firstOne) != NONE) {
                return tape.fails(Tape.WRONG_NAME);
            }
            int secondOne = takePerson();
            if (secondOne == NONE) {
                return false;
            }
            if (secondOne == firstOne || draft.glassOf(secondOne) != NONE) {
                return tape.fails(Tape.WRONG_NAME);
            }
            draft.first[g] = firstOne;
            draft.second[g] = secondOne;
            return true;
        }

        private boolean readDamp() {
            if (draft.damps >= MOST_DAMPS) {
                return tape.fails(Tape.TOO_MANY);
            }
            if (!tape.takeNumber(0, ALL_OVER - 1)) {
                return false;
            }
            int from = tape.number;
            if (!tape.takeNumber(from, ALL_OVER - 1)) {
                return false;
            }
            draft.damp[2 * draft.damps] = from;
            draft.damp[2 * draft.damps + 1] = tape.number;
            draft.damps++;
            return true;
        }

        private boolean readGood() {
            int k = draft.goods.size;
            if (k >= MOST_GOODS) {
                return tape.fails(Tape.TOO_MANY);
            }
            if (!takeNewName()) {
                return false;
            }
            draft.goods.names[k] = tape.code;
            tape.next();
            if (tape.word != Word.NAME) {
                return tape.fails(Tape.CANNOT_COME);
            }
            draft.goods.ofGlass[k] = draft.glassNamed(tape.code);
            if (draft.goods.ofGlass[k] == NONE) {
                return tape.fails(Tape.WRONG_NAME);
            }
            if (!tape.takeNumber(0, 99)) {
                return false;
            }
            draft.goods.toFirst[k] = tape.number;
            if (!tape.takeNumber(0, 99)) {
                return false;
            }
            draft.goods.toSecond[k] = tape.number;
            draft.goods.size++;
            return true;
        }

        private boolean readGrace() {
            if (isGraceTold) {
                return tape.fails(Tape.WRONG_NAME);
            }
            if (!tape.takeNumber(1, MOST_GRACE)) {
                return false;
            }
            isGraceTold = true;
            draft.grace = tape.number;
            return true;
        }

        private boolean readWish() {
            if (isWishTold) {
                return tape.fails(Tape.WRONG_NAME);
            }
            if (!tape.takeNumber(0, 99)) {
                return false;
            }
            isWishTold = true;
            draft.wish = tape.number;
            return true;
        }

        private boolean readEarly() {
            if (draft.early) {
                return tape.fails(Tape.WRONG_NAME);
            }
            draft.early = true;
            return true;
        }

        private boolean readLevel() {
            if (draft.level) {
                return tape.fails(Tape.WRONG_NAME);
            }
            draft.level = true;
            return true;
        }
    }

    /** All that is so in the PARISH at an HOUR, the acts, and how an HOUR goes. */
    private static final class Life {
        /** The acts in the order in which a ROLL's whys are numbered, ten for each. */
        static final int TURN = 0;
        static final int WAKE = 1;
        static final int WOO = 2;
        static final int TILT = 3;
        static final int WIDEN = 4;
        static final int SPILL = 5;
        static final int HOUR = 6;

        static final int ASLANT = 1;
        static final int LEVEL = 2;
        static final int MOST_WOOING = 20;
        static final int MOST_WIDENING = 8;

        private final Parish parish;
        int hour;
        int lapsed;
        private int woken;
        final int[] fond = new int[MOST_PERSONS];
        final int[] turns = new int[MOST_PERSONS];
        final int[] left = new int[MOST_GLASSES];
        final int[] tilted = new int[MOST_GLASSES];
        final int[] neck = new int[MOST_GLASSES];
        final int[] waited = new int[MOST_GLASSES];
        final int[] turned = new int[MOST_GLASSES];

        Life(Parish parish) {
            this.parish = parish;
        }

        void begin() {
            hour = 0;
            lapsed = 0;
            woken = 0;
            for (int p = 0; p < parish.persons; p++) {
                fond[p] = parish.fondAtFirst[p];
                turns[p] = 0;
            }
            for (int g = 0; g < parish.glasses; g++) {
                left[g] = parish.grains[g];
                tilted[g] = 0;
                neck[g] = parish.neckAtFirst[g];
                waited[g] = 0;
                turned[g] = 0;
            }
        }

        void copyFrom(Life other) {
            hour = other.hour;
            lapsed = other.lapsed;
            woken = other.woken;
            System.arraycopy(other.fond, 0, fond, 0, MOST_PERSONS);
            System.arraycopy(other.turns, 0, turns, 0, MOST_PERSONS);
            System.arraycopy(other.left, 0, left, 0, MOST_GLASSES);
            System.arraycopy(other.tilted, 0, tilted, 0, MOST_GLASSES);
            System.arraycopy(other.neck, 0, neck, 0, MOST_GLASSES);
            System.arraycopy(other.waited, 0, waited, 0, MOST_GLASSES);
            System.arraycopy(other.turned, 0, turned, 0, MOST_GLASSES);
        }

        boolean isWoken(int p) {
            return (woken >> p & 1) == 1;
        }

        boolean isAwake(int p) {
            return isWoken(p) || parish.isUp(p, hour);
        }

        boolean isWilling(int p) {
            return fond[p] >= parish.wish && isAwake(p);
        }

        boolean isLapsed(int g) {
            return (lapsed >> g & 1) == 1;
        }

        int awakeBits() {
            int bits = 0;
            for (int p = 0; p < parish.persons; p++) {
                if (isAwake(p)) {
                    bits |= 1 << p;
                }
            }
            return bits;
        }

        int sumOverGlasses(int[] row) {
            int sum = 0;
            for (int g = 0; g < parish.glasses && g < row.length; g++) {
                sum += row[g];
            }
            return sum;
        }

        int hoursOf(int n) {
            return Math.min(n, ALL_OVER - hour);
        }

        int runsAt(int g, int h) {
            if (tilted[g] == LEVEL) {
                return 0;
            }
            int runs = neck[g];
            if (tilted[g] == ASLANT) {
                runs = Math.max(1, runs / 2);
            }
            return parish.isDamp(h) ? Math.max(1, runs / 2) : runs;
        }

        /** 0: it can be done. */
        int whyNot(int act, int who, int n) {
            switch (act) {
                case TURN:
                    return whyNotTurn(who);
                case WAKE:
                    return isAwake(who) ? 1 : 0;
                case WOO:
                    return whyNotWoo(who);
                case TILT:
                    return whyNotTilt(who, n);
                case WIDEN:
                    return isLapsed(who) ? 1 : neck[who] + n > MOST_NECK ? 2 : 0;
                case SPILL:
                    return isLapsed(who) ? 1 : left[who] < n ? 2 : 0;
                default:
                    return n > ALL_OVER - hour ? 1 : 0;
            }
        }

        private boolean isWedStill(int p) {
            int g = parish.glassOf(p);
            return parish.hasGlass(g) && !isLapsed(g);
        }

        private int whyNotTurn(int p) {
            if (!isWedStill(p)) {
                return 1;
            }
            if (!isAwake(p)) {
                return 2;
            }
            int g = parish.glassOf(p);
            if (left[g] > 0 && !parish.early) {
                return 3;
            }
            return left[g] == parish.grains[g] ? 4 : 0;
        }

        private int whyNotWoo(int p) {
            if (!isWedStill(p)) {
                return 1;
            }
            return isAwake(p) ? 0 : 2;
        }

        private int whyNotTilt(int g, int k) {
            if (isLapsed(g)) {
                return 1;
            }
            if (tilted[g] == k) {
                return 2;
            }
            return k == LEVEL && !parish.level ? 3 : 0;
        }

        /** Only for what whyNot() allows; HOURS go by passHours(). */
        void carryOut(int act, int who, int n) {
            switch (act) {
                case TURN:
                    turnOver(parish.glassOf(who), who);
                    break;
                case WAKE:
                    woken |= 1 << who;
                    break;
                case WOO:
                    endear(parish.otherOf(who), n);
                    break;
                case TILT:
                    tilted[who] = n;
                    break;
                case WIDEN:
                    neck[who] += n;
                    break;
                case SPILL:
                    left[who] -= n;
                    break;
                default:
                    break;
            }
        }

        private void turnOver(int g, int p) {
            if (!parish.hasGlass(g)) {
                return;
            }
            left[g] = parish.grains[g] - left[g];
            waited[g] = 0;
            turns[p]++;
            turned[g]++;
        }

        private void endear(int p, int n) {
            if (parish.hasPerson(p)) {
                fond[p] = Math.min(MOST_FOND, fond[p] + n);
            }
        }

        void passHours(int n) {
            for (int i = 0; i < n; i++) {
                passHour();
            }
        }

        private void passHour() {
            for (int g = 0; g < parish.glasses; g++) {
                if (!isLapsed(g)) {
                    passHourOf(g);
                }
            }
            woken = 0;
            if (hour % DAY == DAY - 1) {
                for (int p = 0; p < parish.persons; p++) {
                    fond[p] = parish.fondNextDay(p, fond[p]);
                }
            }
            hour++;
        }

        private void passHourOf(int g) {
            if (left[g] > 0) {
                left[g] = Math.max(0, left[g] - runsAt(g, hour));
            } else if (isWilling(parish.first[g])) {
                turnOver(g, parish.first[g]);
            } else if (isWilling(parish.second[g])) {
                turnOver(g, parish.second[g]);
            } else {
                waited[g]++;
                if (waited[g] >= parish.grace) {
                    lapsed |= 1 << g;
                }
            }
        }

        void drawHours(int n, int seed) {
            int x = seed;
            for (int i = 0; i < n; i++) {
                for (int p = 0; p < parish.persons; p++) {
                    x = drawForPerson(p, x);
                }
                for (int g = 0; g < parish.glasses; g++) {
                    x = drawForGlass(g, x);
                }
                passHour();
            }
        }

        private int drawForPerson(int p, int seed) {
            int x = nextSeed(seed);
            switch ((x >>> 8) % 12) {
                case 0:
                    x = nextSeed(x);
                    doIfCan(WOO, p, (x >>> 8) % 10 + 1);
                    break;
                case 1:
                    doIfCan(TURN, p, 0);
                    break;
                case 2:
                    doIfCan(WAKE, p, 0);
                    break;
                default:
                    break;
            }
            return x;
        }

        private int drawForGlass(int g, int seed) {
            int x = nextSeed(seed);
            if ((x >>> 8) % 30 == 0) {
                x = nextSeed(x);
                doIfCan(SPILL, g, (x >>> 8) % 20 + 1);
            }
            return x;
        }

        private static int nextSeed(int x) {
            return x * 1103515245 + 12345;
        }

        private void doIfCan(int act, int who, int n) {
            if (whyNot(act, who, n) == 0) {
                carryOut(act, who, n);
            }
        }
    }

    /** What was so ahead of each of the latest acts. */
    private static final class Undo {
        private static final int MOST_KEPT = 8;

        private final Life[] kept = new Life[MOST_KEPT];
        private int size;

        Undo(Parish parish) {
            for (int i = 0; i < MOST_KEPT; i++) {
                kept[i] = new Life(parish);
            }
        }

        void forget() {
            size = 0;
        }

        void keep(Life life) {
            if (size == MOST_KEPT) {
                dropOldest();
            }
            kept[size].copyFrom(life);
            size++;
        }

        private void dropOldest() {
            Life oldest = kept[0];
            for (int i = 1; i < MOST_KEPT; i++) {
                kept[i - 1] = kept[i];
            }
            kept[MOST_KEPT - 1] = oldest;
            size--;
        }

        int takeBack(Life life) {
            if (size == 0) {
                return NONE;
            }
            size--;
            life.copyFrom(kept[size]);
            return size;
        }
    }

    /**
     * One GLASS from now on, if nothing else is done. How fond the two are and how fast the sand
     * runs does not hang on whether it is turned, so both are told once for each HOUR.
     */
    private static final class Forecast {
        static final int FIRST_WILLING = 1;
        static final int SECOND_WILLING = 2;
        static final int BOTH_WILLING = 3;
        static final int FIRST_FOND = 4;
        static final int SECOND_FOND = 8;

        private final Parish parish;
        private final Life life;
        private final int[] runs = new int[ALL_OVER];
        private final int[] moods = new int[ALL_OVER];
        private int which;

        int mostChoice;
        int choiceSum;
        int lastTurner;
        int lastTurnHour;

        Forecast(Parish parish, Life life) {
            this.parish = parish;
            this.life = life;
        }

        void look(int g) {
            which = g;
            int a = parish.first[g];
            int b = parish.second[g];
            int fondA = life.fond[a];
            int fondB = life.fond[b];
            for (int h = life.hour; h < ALL_OVER; h++) {
                runs[h] = life.runsAt(g, h);
                moods[h] = mood(a, fondA, h) | mood(b, fondB, h) << 1;
                if (h % DAY == DAY - 1) {
                    fondA = parish.fondNextDay(a, fondA);
                    fondB = parish.fondNextDay(b, fondB);
                }
            }
        }

        /** The bits of the first of the two; those of the second stand one higher. */
        private int mood(int p, int fond, int h) {
            if (fond < parish.wish) {
                return 0;
            }
            boolean isWoken = h == life.hour && life.isWoken(p);
            return isWoken || parish.isUp(p, h) ? FIRST_FOND | FIRST_WILLING : FIRST_FOND;
        }

        int start() {
            return life.hour;
        }

        int grains() {
            return parish.grains[which];
        }

        int grace() {
            return parish.grace;
        }

        int waited() {
            return life.waited[which];
        }

        boolean isSomeoneWilling(int h) {
            return has(h, BOTH_WILLING);
        }

        boolean has(int h, int bits) {
            return h >= 0 && h < ALL_OVER && (moods[h] & bits) != 0;
        }

        private boolean areBothWilling(int h) {
            return has(h, FIRST_WILLING) && has(h, SECOND_WILLING);
        }

        int endNow() {
            return endFrom(life.hour, life.left[which]);
        }

        /** 600: it does not end. */
        int endFrom(int h, int sand) {
            int rest = sand;
            for (int t = Math.max(0, h); t < ALL_OVER; t++) {
                if (rest <= 0) {
                    return t;
                }
                rest -= runs[t];
            }
            return ALL_OVER;
        }

        /** The HOUR ahead of 'until' in which it lapses with so much sand now, or NONE. */
        int lapseHour(int sand, int grace, int until) {
            int rest = sand;
            int waits = life.waited[which];
            for (int h = life.hour; h < until && h < ALL_OVER; h++) {
                if (rest > 0) {
                    rest = Math.max(0, rest - runs[h]);
                } else if (isSomeoneWilling(h)) {
                    rest = parish.grains[which];
                    waits = 0;
                } else {
                    waits++;
                    if (waits >= grace) {
                        return h;
                    }
                }
            }
            return NONE;
        }

        /** All GRAINS that end in one HOUR stand together, so one pass over the HOURS tells of them all. */
        void weighGrains() {
            mostChoice = NONE;
            choiceSum = 0;
            int gone = 0;
            for (int h = life.hour; h < ALL_OVER - 1 && gone < MOST_GRAINS; h++) {
                int next = Math.min(MOST_GRAINS, gone + runs[h]);
                if (next > gone && areBothWilling(h + 1)) {
                    mostChoice = next;
                    choiceSum += next - gone;
                }
                gone = next;
            }
        }

        void findLastTurner() {
            lastTurner = NONE;
            lastTurnHour = NONE;
            int end = endNow();
            for (int h = end; h < end + parish.grace && h < ALL_OVER; h++) {
                if (isSomeoneWilling(h)) {
                    lastTurnHour = h;
                    lastTurner = has(h, SECOND_WILLING) ? parish.second[which] : parish.first[which];
                }
            }
        }
    }

    /** The fewest wakings, found from the last HOUR back to the first for each number of HOURS waited. */
    private static final class Watch {
        private static final int NEVER = 1000;

        private final Forecast outlook;
        private final int[] fewest = new int[MOST_HOURS * MOST_GRACE];
        private final int[] afterTurn = new int[MOST_HOURS];
        private final int[] wakings = new int[MOST_HOURS];
        private int size;
        private int span;

        Watch(Forecast outlook) {
            this.outlook = outlook;
        }

        int wakingAt(int k) {
            return k >= 0 && k < size ? wakings[k] : NONE;
        }

        int keepFor(int hours) {
            span = Math.max(0, Math.min(hours, MOST_HOURS));
            for (int i = span - 1; i >= 0; i--) {
                weighHour(i);
            }
            int begin = outlook.endNow() - outlook.start();
            if (fewestFrom(begin, outlook.waited()) >= NEVER) {
                return NONE;
            }
            noteWakings(begin, outlook.waited());
            return size;
        }

        /** From the beginning of the i-th HOUR on, none being LEFT. */
        private int fewestFrom(int i, int waited) {
            if (waited < 0 || waited >= outlook.grace()) {
                return NEVER;
            }
            return i < span ? fewest[i * MOST_GRACE + waited] : 0;
        }

        private void weighHour(int i) {
            int h = outlook.start() + i;
            afterTurn[i] = outlook.endFrom(h + 1, outlook.grains()) - outlook.start();
            for (int waited = 0; waited < outlook.grace(); waited++) {
                int best = fewestFrom(afterTurn[i], 0);
                if (!outlook.isSomeoneWilling(h)) {
                    best = Math.min(costOfWaking(i), fewestFrom(i + 1, waited + 1));
                }
                fewest[i * MOST_GRACE + waited] = best;
            }
        }

        private int costOfWaking(int i) {
            boolean canHelp = outlook.has(outlook.start() + i, Forecast.FIRST_FOND | Forecast.SECOND_FOND);
            return canHelp ? 1 + fewestFrom(afterTurn[i], 0) : NEVER;
        }

        /** Waiting is taken wherever it costs no more, so that each waking is as late as may be. */
        private void noteWakings(int begin, int waitedNow) {
            size = 0;
            int i = begin;
            int waited = waitedNow;
            while (i < span) {
                int h = outlook.start() + i;
                boolean isTurned = outlook.isSomeoneWilling(h);
                if (!isTurned && fewestFrom(i + 1, waited + 1) > costOfWaking(i)) {
                    wakings[size] = 10 * h + (outlook.has(h, Forecast.FIRST_FOND) ? 0 : 1);
                    size++;
                    isTurned = true;
                }
                waited = isTurned ? 0 : waited + 1;
                i = isTurned ? Math.max(i + 1, afterTurn[i]) : i + 1;
            }
        }
    }

    /** The LINES of a ROLL, and what the latest one came to. */
    private static final class Roll {
        private static final int MOST_TEXT = 400;
        private static final int MOST_LINES = 40;

        private final Tape tape;
        private final Parish parish;
        private final int[] acts = new int[MOST_LINES];
        private final int[] whos = new int[MOST_LINES];
        private final int[] numbers = new int[MOST_LINES];
        private int lines;

        private boolean isJudged;
        private int why;
        int rightLines;
        private int hourThen;
        private int lapsedThen;

        Roll(Tape tape, Parish parish) {
            this.tape = tape;
            this.parish = parish;
        }

        boolean read() {
            tape.begin(MOST_TEXT);
            lines = 0;
            tape.next();
            while (tape.kind != Tape.END && lines <= MOST_LINES) {
                if (!readLine() || !tape.takeSemicolon()) {
                    return false;
                }
                lines++;
                tape.next();
            }
            return true;
        }

        private boolean readLine() {
            int p = parish.personNamed(tape.code);
            int g = parish.glassNamed(tape.code);
            if (tape.word != Word.HOUR && tape.word != Word.NAME) {
                return tape.fails(Tape.CANNOT_COME);
            }
            if (tape.word == Word.NAME && p == NONE && g == NONE) {
                return tape.fails(Tape.WRONG_NAME);
            }
            if (lines >= MOST_LINES) {
                return tape.fails(Tape.TOO_MANY);
            }
            if (tape.word == Word.HOUR) {
                return takeAct(Life.HOUR, 0, 1, MOST_HOURS);
            }
            tape.next();
            return p != NONE ? readActOfPerson(p) : readActOfGlass(g);
        }

        private boolean readActOfPerson(int p) {
            switch (tape.word) {
                case TURNS:
                    return note(Life.TURN, p, 0);
                case WAKES:
                    return note(Life.WAKE, p, 0);
                case WOOS:
                    return takeAct(Life.WOO, p, 1, Life.MOST_WOOING);
                default:
                    return tape.fails(Tape.CANNOT_COME);
            }
        }

        private boolean readActOfGlass(int g) {
            switch (tape.word) {
                case TILTS:
                    return takeAct(Life.TILT, g, 0, Life.LEVEL);
                case WIDENS:
                    return takeAct(Life.WIDEN, g, 1, Life.MOST_WIDENING);
                case SPILLS:
                    return takeAct(Life.SPILL, g, 1, MOST_GRAINS);
                default:
                    return tape.fails(Tape.CANNOT_COME);
            }
        }

        private boolean takeAct(int act, int who, int least, int most) {
            return tape.takeNumber(least, most) && note(act, who, tape.number);
        }

        private boolean note(int act, int who, int n) {
            acts[lines] = act;
            whos[lines] = who;
            numbers[lines] = n;
            return true;
        }

        /** The LINE that is WRONG, or NONE. */
        int judge(Life life) {
            isJudged = true;
            why = 0;
            rightLines = 0;
            while (why == 0 && rightLines < lines && rightLines < MOST_LINES) {
                int act = acts[rightLines];
                int who = whos[rightLines];
                int n = numbers[rightLines];
                int reason = life.whyNot(act, who, n);
                if (reason != 0) {
                    why = 10 * act + reason;
                } else if (act == Life.HOUR) {
                    life.passHours(n);
                    rightLines++;
                } else {
                    life.carryOut(act, who, n);
                    rightLines++;
                }
            }
            hourThen = life.hour;
            lapsedThen = life.lapsed;
            return why == 0 ? NONE : rightLines;
        }

        int told(int what) {
            if (!isJudged) {
                return NONE;
            }
            switch (what) {
                case 0:
                    return why;
                case 1:
                    return rightLines;
                case 2:
                    return hourThen;
                case 3:
                    return lapsedThen;
                default:
                    return NONE;
            }
        }
    }

    /** A SENTENCE as steps, each part ahead of the sign that joins it, so that saying it needs no tree. */
    private static final class Sentence {
        private static final int MOST_TEXT = 200;
        private static final int MOST_ONES = 20;
        private static final int MOST_WITHIN = 8;
        /** No more than 20 ONES, and one 'and' or 'or' fewer between them. */
        private static final int MOST_STEPS = 2 * MOST_ONES;

        private final Word[] steps = new Word[MOST_STEPS];
        private final int[] signs = new int[MOST_STEPS];
        private final int[] values = new int[MOST_STEPS];
        private int size;
        /** 0: there is no SENTENCE. */
        int ones;

        Sentence() {
            for (int i = 0; i < MOST_STEPS; i++) {
                steps[i] = Word.NO;
            }
        }

        void forget() {
            ones = 0;
            size = 0;
        }

        void copyFrom(Sentence other) {
            for (int i = 0; i < MOST_STEPS; i++) {
                steps[i] = other.steps[i];
                signs[i] = other.signs[i];
                values[i] = other.values[i];
            }
            size = other.size;
            ones = other.ones;
        }

        boolean read(Tape tape, Parish parish) {
            forget();
            tape.begin(MOST_TEXT);
            tape.next();
            if (!readCond(tape, parish, 0)) {
                return false;
            }
            return tape.kind == Tape.END || tape.fails(Tape.CANNOT_COME);
        }

        private boolean readCond(Tape tape, Parish parish, int within) {
            if (!readAll(tape, parish, within)) {
                return false;
            }
            for (int i = 0; i < MOST_ONES && tape.word == Word.OR; i++) {
                tape.next();
                if (!readAll(tape, parish, within)) {
                    return false;
                }
                addStep(Word.OR, 0, 0);
            }
            return true;
        }

        private boolean readAll(Tape tape, Parish parish, int within) {
            if (!readOne(tape, parish, within)) {
                return false;
            }
            for (int i = 0; i < MOST_ONES && tape.word == Word.AND; i++) {
                tape.next();
                if (!readOne(tape, parish, within)) {
                    return false;
                }
                addStep(Word.AND, 0, 0);
            }
            return true;
        }

        /** Leaves the tape at the TOKEN behind the ONE. */
        private boolean readOne(Tape tape, Parish parish, int within) {
            boolean isBracket = tape.kind == '(';
            if (!isBracket && !mayBegin(tape.word)) {
                return tape.fails(Tape.CANNOT_COME);
            }
            if (ones >= MOST_ONES || within >= MOST_WITHIN) {
                return tape.fails(Tape.TOO_MANY);
            }
            ones++;
            if (tape.word == Word.NOT) {
                tape.next();
                return readOne(tape, parish, within + 1) && addStep(Word.NOT, 0, 0);
            }
            if (!isBracket) {
                return readPlain(tape, parish);
            }
            tape.next();
            if (!readCond(tape, parish, within + 1)) {
                return false;
            }
            if (tape.kind != ')') {
                return tape.fails(Tape.CANNOT_COME);
            }
            tape.next();
            return true;
        }

        private static boolean mayBegin(Word word) {
            switch (word) {
                case NOT:
                case LAPSED:
                case RUN:
                case ASLANT:
                case BOTH:
                case OF:
                    return true;
                default:
                    return isMeasure(word);
            }
        }

        private static boolean isMeasure(Word word) {
            return word == Word.LEFT || word == Word.NECK || word == Word.TURNED || word == Word.NUMBER;
        }

        private boolean readPlain(Tape tape, Parish parish) {
            Word word = tape.word;
            int sign = 0;
            int value = 0;
            tape.next();
            if (word == Word.OF) {
                if (tape.word != Word.NAME) {
                    return tape.fails(Tape.CANNOT_COME);
                }
                value = parish.personNamed(tape.code);
                if (value == NONE) {
                    return tape.fails(Tape.WRONG_NAME);
                }
                tape.next();
            } else if (isMeasure(word)) {
                sign = tape.kind;
                if (sign != '<' && sign != '=' && sign != '>') {
                    return tape.fails(Tape.CANNOT_COME);
                }
                tape.next();
                if (tape.kind != Tape.NUMBER) {
                    return tape.fails(Tape.CANNOT_COME);
                }
                value = tape.number;
                tape.next();
            }
            return addStep(word, sign, value);
        }

        private boolean addStep(Word word, int sign, int value) {
            if (size < MOST_STEPS) {
                steps[size] = word;
                signs[size] = sign;
                values[size] = value;
                size++;
            }
            return true;
        }

        /** What is open stands as bits, the latest lowest: 20 ONES at most fit well into an int. */
        boolean holds(Life life, Parish parish, int g) {
            int open = 0;
            for (int i = 0; i < size; i++) {
                int latest = open & 1;
                switch (steps[i]) {
                    case NOT:
                        open ^= 1;
                        break;
                    case AND:
                        open = open >> 1 & (latest | -2);
                        break;
                    case OR:
                        open = open >> 1 | latest;
                        break;
                    default:
                        open = open << 1 | (isSo(i, life, parish, g) ? 1 : 0);
                }
            }
            return (open & 1) == 1;
        }

        private boolean isSo(int i, Life life, Parish parish, int g) {
            switch (steps[i]) {
                case LAPSED:
                    return life.isLapsed(g);
                case RUN:
                    return life.left[g] == 0;
                case ASLANT:
                    return life.tilted[g] == Life.ASLANT;
                case BOTH:
                    return life.isAwake(parish.first[g]) && life.isAwake(parish.second[g]);
                case OF:
                    return values[i] == parish.first[g] || values[i] == parish.second[g];
                case LEFT:
                    return compares(life.left[g], i);
                case NECK:
                    return compares(life.neck[g], i);
                case TURNED:
                    return compares(life.turned[g], i);
                default:
                    return compares(g, i);
            }
        }

        private boolean compares(int n, int i) {
            if (signs[i] == '<') {
                return n < values[i];
            }
            return signs[i] == '>' ? n > values[i] : n == values[i];
        }
    }
}
