import java.util.ArrayDeque;
import java.util.ArrayList;
import java.util.Arrays;
import java.util.Deque;
import java.util.HashMap;
import java.util.HashSet;
import java.util.List;
import java.util.Map;
import java.util.NoSuchElementException;
import java.util.Set;

/**
 * The document once more, written as plainly as may be: texts are cut into lists of tokens, every
 * question about what would go on is answered by letting a copy of all go on. It shares nothing with
 * the program, so that RandomChecks can hold one against the other.
 */
public final class PlainModel {
    private static final Set<String> RESERVED = Set.of("person", "warms", "cools", "glass", "damp", "good",
            "grace", "wish", "early", "level", "turns", "wakes", "woos", "tilts", "widens", "spills", "hour",
            "or", "and", "not", "lapsed", "run", "aslant", "both", "of", "left", "neck", "turned", "number");

    private static final class Fault extends RuntimeException {
        final int kind;
        final int place;

        Fault(int kind, int place) {
            super(null, null, false, false);
            this.kind = kind;
            this.place = place;
        }
    }

    private record Token(int place, String text) {
        boolean isWord() {
            return text.matches("[a-z]{1,7}");
        }

        boolean isNumber() {
            return text.matches("[0-9]{1,3}");
        }

        boolean isName() {
            return isWord() && !RESERVED.contains(text);
        }

        boolean is(String other) {
            return text.equals(other);
        }
    }

    private static final class Tokens {
        final List<Token> all = new ArrayList<>();
        int at = 0;

        /** The end is the text "$", a text that is too long ends in "!". */
        Tokens(List<Integer> bytes, int most) {
            StringBuilder text = new StringBuilder();
            for (int b : bytes) {
                text.append((char) b);
            }
            int i = 0;
            while (i < text.length()) {
                String sign = text.substring(i, i + 1);
                if (sign.equals(" ") || sign.equals("\n")) {
                    i++;
                    continue;
                }
                if (i >= most) {
                    break;
                }
                int j = i + 1;
                if (sign.matches("[a-z0-9]")) {
                    while (j < text.length() && text.substring(j, j + 1).matches("[a-z0-9]")) {
                        j++;
                    }
                }
                String token = text.substring(i, j);
                all.add(new Token(i, token.equals("$") || token.equals("!") ? "?" : token));
                i = j;
            }
            boolean isTooLong = text.length() > most;
            all.add(new Token(isTooLong ? most : text.length(), isTooLong ? "!" : "$"));
        }

        Token see() {
            return all.get(at);
        }

        Token take() {
            Token t = all.get(at);
            if (at < all.size() - 1) {
                at++;
            }
            return t;
        }

        void takeText(String text) {
            Token t = take();
            if (!t.is(text)) {
                throw new Fault(1, t.place);
            }
        }

        int takeNumber(int least, int most) {
            Token t = take();
            if (!t.isNumber()) {
                throw new Fault(1, t.place);
            }
            int n = Integer.parseInt(t.text);
            if (n < least || n > most) {
                throw new Fault(2, t.place);
            }
            return n;
        }

        Token takeName() {
            Token t = take();
            if (!t.isName()) {
                throw new Fault(1, t.place);
            }
            return t;
        }
    }

    private static final class Person implements Cloneable {
        String name;
        int from;
        int to;
        int fond;
        int warms;
        int cools;
        int turns;
        boolean woken;
    }

    private static final class Glass {
        String name;
        int[] two = new int[2];
        int grains;
        int neck;
        int left;
        int tilt;
        boolean lapsed;
        int waited;
        int turned;
    }

    private record Good(String name, int glass, int first, int second) {
    }

    private static final class World {
        List<Person> persons = new ArrayList<>();
        List<Glass> glasses = new ArrayList<>();
        List<Good> goods = new ArrayList<>();
        List<int[]> damps = new ArrayList<>();
        int grace = 2;
        int wish = 50;
        boolean early;
        boolean level;
        int hour;

        World copy() {
            World w = new World();
            for (Person p : persons) {
                Person q = new Person();
                q.name = p.name;
                q.from = p.from;
                q.to = p.to;
                q.fond = p.fond;
                q.warms = p.warms;
                q.cools = p.cools;
                q.turns = p.turns;
                q.woken = p.woken;
                w.persons.add(q);
            }
            for (Glass g : glasses) {
                Glass q = new Glass();
                q.name = g.name;
                q.two = g.two.clone();
                q.grains = g.grains;
                q.neck = g.neck;
                q.left = g.left;
                q.tilt = g.tilt;
                q.lapsed = g.lapsed;
                q.waited = g.waited;
                q.turned = g.turned;
                w.glasses.add(q);
            }
            w.goods.addAll(goods);
            w.damps.addAll(damps);
            w.grace = grace;
            w.wish = wish;
            w.early = early;
            w.level = level;
            w.hour = hour;
            return w;
        }

        int indexOfPerson(String name) {
            for (int i = 0; i < persons.size(); i++) {
                if (persons.get(i).name.equals(name)) {
                    return i;
                }
            }
            return -1;
        }

        int indexOfGlass(String name) {
            for (int i = 0; i < glasses.size(); i++) {
                if (glasses.get(i).name.equals(name)) {
                    return i;
                }
            }
            return -1;
        }

        boolean isTold(String name) {
            return indexOfPerson(name) >= 0 || indexOfGlass(name) >= 0
                    || goods.stream().anyMatch(k -> k.name.equals(name));
        }

        int glassOf(int p) {
            for (int i = 0; i < glasses.size(); i++) {
                if (glasses.get(i).two[0] == p || glasses.get(i).two[1] == p) {
                    return i;
                }
            }
            return -1;
        }

        int otherOf(int p) {
            int g = glassOf(p);
            return g < 0 ? -1 : glasses.get(g).two[0] + glasses.get(g).two[1] - p;
        }

        boolean damp() {
            return damps.stream().anyMatch(d -> d[0] <= hour && hour <= d[1]);
        }

        /** Walks along the clock from FROM to TO. */
        boolean upBy(int p) {
            Person q = persons.get(p);
            int t = q.from;
            do {
                if (t == hour % 24) {
                    return true;
                }
                t = (t + 1) % 24;
            } while (t != q.to);
            return false;
        }

        boolean awake(int p) {
            return persons.get(p).woken || upBy(p);
        }

        boolean willing(int p) {
            return awake(p) && persons.get(p).fond >= wish;
        }

        int runs(int g) {
            Glass q = glasses.get(g);
            int n = q.neck;
            if (q.tilt == 2) {
                return 0;
            }
            if (q.tilt == 1 && n > 1) {
                n /= 2;
            }
            if (damp() && n > 1) {
                n /= 2;
            }
            return n;
        }

        int turn(int p) {
            int g = glassOf(p);
            if (g < 0 || glasses.get(g).lapsed) {
                return 1;
            }
            if (!awake(p)) {
                return 2;
            }
            Glass q = glasses.get(g);
            if (q.left != 0 && !early) {
                return 3;
            }
            if (q.left == q.grains) {
                return 4;
            }
            q.left = q.grains - q.left;
            q.waited = 0;
            q.turned++;
            persons.get(p).turns++;
            return 0;
        }

        int wake(int p) {
            if (awake(p)) {
                return 1;
            }
            persons.get(p).woken = true;
            return 0;
        }

        int woo(int p, int n) {
            int g = glassOf(p);
            if (g < 0 || glasses.get(g).lapsed) {
                return 1;
            }
            if (!awake(p)) {
                return 2;
            }
            Person q = persons.get(otherOf(p));
            q.fond = Math.min(99, q.fond + n);
            return 0;
        }

        int tilt(int g, int k) {
            Glass q = glasses.get(g);
            if (q.lapsed) {
                return 1;
            }
            if (q.tilt == k) {
                return 2;
            }
            if (k == 2 && !level) {
                return 3;
            }
            q.tilt = k;
            return 0;
        }

        int widen(int g, int n) {
            Glass q = glasses.get(g);
            if (q.lapsed) {
                return 1;
            }
            if (q.neck + n > 9) {
                return 2;
            }
            q.neck += n;
            return 0;
        }

        int spill(int g, int n) {
            Glass q = glasses.get(g);
            if (q.lapsed) {
                return 1;
            }
            if (q.left < n) {
                return 2;
            }
            q.left -= n;
            return 0;
        }

        boolean pass() {
            if (hour >= 600) {
                return false;
            }
            for (int g = 0; g < glasses.size(); g++) {
                Glass q = glasses.get(g);
                if (q.lapsed) {
                    continue;
                }
                if (q.left == 0) {
                    int who = willing(q.two[0]) ? q.two[0] : willing(q.two[1]) ? q.two[1] : -1;
                    if (who < 0) {
                        q.waited++;
                        q.lapsed = q.waited >= grace;
                    } else {
                        q.left = q.grains;
                        q.waited = 0;
                        q.turned++;
                        persons.get(who).turns++;
                    }
                } else {
                    q.left -= Math.min(q.left, runs(g));
                }
            }
            for (Person p : persons) {
                p.woken = false;
                if ((hour + 1) % 24 == 0) {
                    p.fond = Math.min(99, p.fond + p.warms);
                    p.fond = Math.max(0, p.fond - p.cools);
                }
            }
            hour++;
            return true;
        }

        private int x;

        private int draw(int n) {
            x = x * 1103515245 + 12345;
            return (x >>> 8) % n;
        }

        int drawHours(int n, int seed) {
            x = seed;
            int went = 0;
            while (went < n && hour < 600) {
                for (int p = 0; p < persons.size(); p++) {
                    int d = draw(12);
                    if (d == 0) {
                        woo(p, draw(10) + 1);
                    } else if (d == 1) {
                        turn(p);
                    } else if (d == 2) {
                        wake(p);
                    }
                }
                for (int g = 0; g < glasses.size(); g++) {
                    if (draw(30) == 0) {
                        spill(g, draw(20) + 1);
                    }
                }
                pass();
                went++;
            }
            return went;
        }

        int lapsedBits() {
            int bits = 0;
            for (int g = 0; g < glasses.size(); g++) {
                bits += glasses.get(g).lapsed ? 1 << g : 0;
            }
            return bits;
        }
    }

    /** What may be said: a tree, each kind with its parts. */
    private interface Cond {
        boolean of(World w, int g);
    }

    private List<Integer> tape = new ArrayList<>();
    private World world = new World();
    private Cond saying = null;
    private int lastFault = 0;
    private final Deque<World> past = new ArrayDeque<>();
    private List<Integer> wakings = new ArrayList<>();
    private String banns = "";
    private int[] rolled = null;
    private final World[] imageWorld = new World[2];
    private final Cond[] imageSaying = new Cond[2];

    public int feed(int a, int b, int c, int d, int e) {
        if (tape.size() + 20 > 940) {
            return -1;
        }
        for (int n : new int[] {a, b, c, d, e}) {
            for (int i = 3; i >= 0; i--) {
                tape.add(n >>> 8 * i & 255);
            }
        }
        return tape.size();
    }

    public boolean end(int n) {
        if (n < 0 || n > tape.size()) {
            return false;
        }
        tape = new ArrayList<>(tape.subList(0, n));
        return true;
    }

    public int parish() {
        Tokens t = new Tokens(tape, 900);
        tape.clear();
        try {
            World w = new World();
            Set<String> told = new HashSet<>();
            int lines = 0;
            while (!t.see().is("$")) {
                parishLine(t, w, told);
                t.takeText(";");
                lines++;
            }
            world = w;
            saying = null;
            past.clear();
            lastFault = 0;
            return lines;
        } catch (Fault f) {
            lastFault = f.kind;
            return -1 - f.place;
        }
    }

    private static String newName(Tokens t, World w) {
        Token name = t.takeName();
        if (w.isTold(name.text)) {
            throw new Fault(3, name.place);
        }
        return name.text;
    }

    private static int toldPerson(Tokens t, World w) {
        Token name = t.takeName();
        int p = w.indexOfPerson(name.text);
        if (p < 0) {
            throw new Fault(3, name.place);
        }
        return p;
    }

    private static void parishLine(Tokens t, World w, Set<String> told) {
        Token first = t.take();
        switch (first.text) {
            case "person" -> {
                atMost(first, w.persons.size(), 8);
                Person p = new Person();
                p.name = newName(t, w);
                p.from = t.takeNumber(0, 23);
                p.to = t.takeNumber(0, 23);
                p.fond = t.takeNumber(0, 99);
                w.persons.add(p);
            }
            case "warms", "cools" -> {
                int place = t.see().place;
                int p = toldPerson(t, w);
                if (!told.add(first.text + p)) {
                    throw new Fault(3, place);
                }
                int n = t.takeNumber(1, 9);
                if (first.is("warms")) {
                    w.persons.get(p).warms = n;
                } else {
                    w.persons.get(p).cools = n;
                }
            }
            case "glass" -> {
                atMost(first, w.glasses.size(), 4);
                Glass g = new Glass();
                g.name = newName(t, w);
                for (int i = 0; i < 2; i++) {
                    int place = t.see().place;
                    g.two[i] = toldPerson(t, w);
                    if (w.glassOf(g.two[i]) >= 0 || i == 1 && g.two[0] == g.two[1]) {
                        throw new Fault(3, place);
                    }
                }
                g.grains = t.takeNumber(1, 250);
                g.left = g.grains;
                g.neck = t.takeNumber(1, 9);
                w.glasses.add(g);
            }
            case "damp" -> {
                atMost(first, w.damps.size(), 6);
                int from = t.takeNumber(0, 599);
                w.damps.add(new int[] {from, t.takeNumber(from, 599)});
            }
            case "good" -> {
                atMost(first, w.goods.size(), 6);
                String name = newName(t, w);
                Token of = t.takeName();
                int g = w.indexOfGlass(of.text);
                if (g < 0) {
                    throw new Fault(3, of.place);
                }
                int a = t.takeNumber(0, 99);
                w.goods.add(new Good(name, g, a, t.takeNumber(0, 99)));
            }
            case "grace" -> {
                once(first, told);
                w.grace = t.takeNumber(1, 9);
            }
            case "wish" -> {
                once(first, told);
                w.wish = t.takeNumber(0, 99);
            }
            case "early" -> {
                once(first, told);
                w.early = true;
            }
            case "level" -> {
                once(first, told);
                w.level = true;
            }
            default -> throw new Fault(1, first.place);
        }
    }

    private static void atMost(Token first, int size, int most) {
        if (size >= most) {
            throw new Fault(4, first.place);
        }
    }

    private static void once(Token first, Set<String> told) {
        if (!told.add(first.text)) {
            throw new Fault(3, first.place);
        }
    }

    public int fault() {
        return lastFault;
    }

    private boolean isPerson(int p) {
        return p >= 0 && p < world.persons.size();
    }

    private boolean isGlass(int g) {
        return g >= 0 && g < world.glasses.size();
    }

    private boolean isOn(int g) {
        return isGlass(g) && !world.glasses.get(g).lapsed;
    }

    private static boolean in(int a, int n, int b) {
        return a <= n && n <= b;
    }

    public int person(int p, int what) {
        if (!isPerson(p) || !in(0, what, 5)) {
            throw new NoSuchElementException();
        }
        Person q = world.persons.get(p);
        return new int[] {world.awake(p) ? 1 : 0, q.fond, world.glassOf(p), world.otherOf(p), q.turns,
            world.willing(p) ? 1 : 0}[what];
    }

    public int glass(int g, int what) {
        if (!isGlass(g) || !in(0, what, 9)) {
            throw new NoSuchElementException();
        }
        Glass q = world.glasses.get(g);
        return new int[] {q.two[0], q.two[1], q.grains, q.neck, q.left, q.tilt, q.lapsed ? 1 : 0, q.waited,
            q.turned, q.lapsed || world.hour == 600 ? 0 : world.runs(g)}[what];
    }

    public int now(int what) {
        if (!in(0, what, 5)) {
            return -1;
        }
        int awake = 0;
        for (int p = 0; p < world.persons.size(); p++) {
            awake |= world.awake(p) ? 1 << p : 0;
        }
        return new int[] {world.hour, world.damp() ? 1 : 0, world.lapsedBits(), awake,
            world.glasses.stream().mapToInt(g -> g.turned).sum(),
            world.glasses.stream().mapToInt(g -> g.left).sum()}[what];
    }

    private void keep(World before) {
        past.addLast(before);
        if (past.size() > 8) {
            past.removeFirst();
        }
    }

    private int done(World before, int why) {
        if (why == 0) {
            keep(before);
        }
        return why;
    }

    public int turn(int p) {
        World before = world.copy();
        return isPerson(p) ? done(before, world.turn(p)) : -1;
    }

    public int wake(int p) {
        World before = world.copy();
        return isPerson(p) ? done(before, world.wake(p)) : -1;
    }

    public int woo(int p, int n) {
        World before = world.copy();
        return isPerson(p) && in(1, n, 20) ? done(before, world.woo(p, n)) : -1;
    }

    public int tilt(int g, int k) {
        World before = world.copy();
        return isGlass(g) && in(0, k, 2) ? done(before, world.tilt(g, k)) : -1;
    }

    public int widen(int g, int n) {
        World before = world.copy();
        return isGlass(g) && in(1, n, 8) ? done(before, world.widen(g, n)) : -1;
    }

    public int spill(int g, int n) {
        World before = world.copy();
        return isGlass(g) && in(1, n, 250) ? done(before, world.spill(g, n)) : -1;
    }

    public int hours(int n) {
        if (!in(1, n, 60)) {
            return -1;
        }
        World before = world.copy();
        int went = 0;
        while (went < n && world.pass()) {
            went++;
        }
        if (went > 0) {
            keep(before);
        }
        return went;
    }

    public int undo() {
        if (past.isEmpty()) {
            return -1;
        }
        world = past.removeLast();
        return past.size();
    }

    public int ends(int g) {
        return isOn(g) ? endOf(world.copy(), g) : -1;
    }

    private static int endOf(World w, int g) {
        while (w.hour < 600) {
            if (w.glasses.get(g).left == 0) {
                return w.hour;
            }
            w.pass();
        }
        return -1;
    }

    public int lapses(int g) {
        return isOn(g) ? lapseOf(world.copy(), g) : -1;
    }

    private static int lapseOf(World w, int g) {
        while (w.pass()) {
            if (w.glasses.get(g).lapsed) {
                return w.hour - 1;
            }
        }
        return -1;
    }

    public int soonest() {
        int best = -1;
        for (int g = 0; g < world.glasses.size(); g++) {
            if (lapses(g) >= 0 && (best < 0 || lapses(g) < lapses(best))) {
                best = g;
            }
        }
        return best;
    }

    /** Tries 0, 1, 2, .. wakings; waiting is tried ahead of waking, the first ahead of the second. */
    public int watch(int g, int n) {
        if (!isOn(g) || !in(1, n, 60)) {
            return -1;
        }
        int until = Math.min(600, world.hour + n);
        for (int most = 0; most <= 60; most++) {
            List<Integer> found = new ArrayList<>();
            if (survives(world.copy(), g, until, most, found, new HashSet<>())) {
                wakings = found;
                return most;
            }
        }
        return -1;
    }

    private static boolean survives(World w, int g, int until, int most, List<Integer> found, Set<List<Integer>> dead) {
        Glass q = w.glasses.get(g);
        if (q.lapsed) {
            return false;
        }
        if (w.hour == until) {
            return most == 0;
        }
        List<Integer> key = List.of(w.hour, q.left, q.waited, most);
        if (dead.contains(key)) {
            return false;
        }
        World plain = w.copy();
        plain.pass();
        if (survives(plain, g, until, most, found, dead)) {
            return true;
        }
        boolean mayWake = q.left == 0 && !w.willing(q.two[0]) && !w.willing(q.two[1]);
        for (int i = 0; i < 2 && mayWake && most > 0; i++) {
            World woken = w.copy();
            if (woken.wake(q.two[i]) == 0 && woken.willing(q.two[i])) {
                woken.pass();
                found.add(10 * w.hour + i);
                if (survives(woken, g, until, most - 1, found, dead)) {
                    return true;
                }
                found.remove(found.size() - 1);
            }
        }
        dead.add(key);
        return false;
    }

    public int waking(int k) {
        return k >= 0 && k < wakings.size() ? wakings.get(k) : -1;
    }

    private List<Integer> allChoices(int g) {
        List<Integer> all = new ArrayList<>();
        for (int n = 1; n <= 250; n++) {
            World w = world.copy();
            Glass q = w.glasses.get(g);
            q.grains = n;
            q.left = n;
            if (endOf(w, g) >= 0 && w.willing(q.two[0]) && w.willing(q.two[1])) {
                all.add(n);
            }
        }
        return all;
    }

    public int chosen(int g) {
        List<Integer> all = isOn(g) ? allChoices(g) : List.of();
        return all.isEmpty() ? -1 : all.get(all.size() - 1);
    }

    public int choices(int g) {
        return isOn(g) ? allChoices(g).size() : -1;
    }

    private int[] lastPlay(int g) {
        int[] last = {-1, -1};
        if (!isOn(g)) {
            return last;
        }
        World w = world.copy();
        int end = endOf(w, g);
        if (end < 0) {
            return last;
        }
        for (int i = 0; i < world.grace && w.hour < 600; i++) {
            for (int p : w.glasses.get(g).two) {
                if (w.willing(p)) {
                    last = new int[] {p, w.hour};
                }
            }
            w.pass();
        }
        return last;
    }

    public int play(int g) {
        return lastPlay(g)[0];
    }

    public int playAt(int g) {
        return lastPlay(g)[1];
    }

    public int steal(int g, int h) {
        if (!isOn(g) || h <= world.hour || h > 600) {
            return -1;
        }
        for (int n = 0; n <= world.glasses.get(g).left; n++) {
            World w = world.copy();
            w.glasses.get(g).left -= n;
            while (w.hour < h) {
                w.pass();
            }
            if (w.glasses.get(g).lapsed) {
                return n;
            }
        }
        return -1;
    }

    private int[] bestParts(int g) {
        int[] best = {-1, -1};
        for (int bits = 0; bits < 64; bits++) {
            int a = 0;
            int b = 0;
            boolean fits = true;
            for (int k = 0; k < 6; k++) {
                boolean has = (bits & 1 << k) != 0;
                boolean own = k < world.goods.size() && world.goods.get(k).glass == g;
                fits = fits && (own || !has);
                a += own && has ? world.goods.get(k).first : 0;
                b += own && !has ? world.goods.get(k).second : 0;
            }
            if (fits && Math.min(a, b) > best[0]) {
                best = new int[] {Math.min(a, b), bits};
            }
        }
        return best;
    }

    public int parts(int g) {
        return isGlass(g) ? bestParts(g)[0] : -1;
    }

    public int parted(int g) {
        return isGlass(g) ? bestParts(g)[1] : -1;
    }

    public int good(int k, int what) {
        if (!in(0, k, world.goods.size() - 1) || !in(0, what, 2)) {
            return -1;
        }
        Good q = world.goods.get(k);
        return new int[] {q.glass, q.first, q.second}[what];
    }

    public int law(int set, int n) {
        if (!in(0, set, (1 << world.glasses.size()) - 1) || !in(1, n, 60) || (set & world.lapsedBits()) != 0) {
            return -1;
        }
        for (int grace = 1; grace <= 9; grace++) {
            World w = world.copy();
            w.grace = grace;
            for (int i = 0; i < n; i++) {
                w.pass();
            }
            if ((w.lapsedBits() & set) == 0) {
                return grace;
            }
        }
        return -1;
    }

    public int rings(int g) {
        List<Integer> told = new ArrayList<>(tape);
        tape.clear();
        if (told.size() != 1 || !isOn(g)) {
            return -1;
        }
        int bits = 0;
        for (int ago = 0; ago <= 24 && ago <= world.hour; ago++) {
            World w = world.copy();
            int left = w.glasses.get(g).grains;
            for (w.hour -= ago; w.hour < world.hour; w.hour++) {
                left -= Math.min(left, w.runs(g));
            }
            bits |= left == told.get(0) ? 1 << ago : 0;
        }
        return bits;
    }

    public int together(int g, int n) {
        if (!isGlass(g) || !in(1, n, 60)) {
            return -1;
        }
        int sum = 0;
        World w = world.copy();
        for (int i = 0; i < n && w.hour < 600; i++) {
            sum += w.upBy(w.glasses.get(g).two[0]) && w.upBy(w.glasses.get(g).two[1]) ? 1 : 0;
            w.hour++;
        }
        return sum;
    }

    public int banns(int g) {
        if (!isGlass(g)) {
            return -1;
        }
        Glass q = world.glasses.get(g);
        int end = ends(g);
        banns = world.persons.get(q.two[0]).name + " and " + world.persons.get(q.two[1]).name
                + (q.lapsed ? " no more" : end < 0 ? " for good" : " for " + (end - world.hour));
        return banns.length();
    }

    public int byteAt(int i) {
        return in(0, i, banns.length() - 1) ? banns.charAt(i) : -1;
    }

    public int drawn(int n, int seed) {
        if (!in(1, n, 60) || world.persons.isEmpty()) {
            return -1;
        }
        World before = world.copy();
        int went = world.drawHours(n, seed);
        if (went > 0) {
            keep(before);
        }
        return went;
    }

    public int odds(int g, int n, int seed) {
        if (!isGlass(g) || !in(1, n, 30)) {
            return -1;
        }
        int sum = 0;
        for (int i = 0; i < n; i++) {
            World w = world.copy();
            w.drawHours(48, seed + i);
            sum += w.glasses.get(g).lapsed ? 0 : 1;
        }
        return sum;
    }

    private record Line(String act, int who, int n) {
    }

    public int roll(int lives) {
        if (lives != 0 && lives != 1) {
            return -1000;
        }
        Tokens t = new Tokens(tape, 400);
        tape.clear();
        List<Line> lines = new ArrayList<>();
        try {
            while (!t.see().is("$")) {
                lines.add(rollLine(t, lines.size()));
                t.takeText(";");
            }
            lastFault = 0;
        } catch (Fault f) {
            lastFault = f.kind;
            return -2 - f.place;
        }
        World before = world.copy();
        World w = lives == 1 ? world : world.copy();
        int why = 0;
        int right = 0;
        for (Line line : lines) {
            why = live(w, line);
            if (why != 0) {
                break;
            }
            right++;
        }
        if (lives == 1 && right > 0) {
            keep(before);
        }
        rolled = new int[] {why, right, w.hour, w.lapsedBits()};
        return why == 0 ? -1 : right;
    }

    private Line rollLine(Tokens t, int before) {
        Token first = t.take();
        boolean isHour = first.is("hour");
        if (!isHour && !first.isName()) {
            throw new Fault(1, first.place);
        }
        int p = world.indexOfPerson(first.text);
        int g = world.indexOfGlass(first.text);
        if (!isHour && p < 0 && g < 0) {
            throw new Fault(3, first.place);
        }
        atMost(first, before, 40);
        if (isHour) {
            return new Line("hour", 0, t.takeNumber(1, 60));
        }
        Token act = t.take();
        Map<String, int[]> ranges = new HashMap<>();
        if (p >= 0) {
            ranges.put("turns", null);
            ranges.put("wakes", null);
            ranges.put("woos", new int[] {1, 20});
        } else {
            ranges.put("tilts", new int[] {0, 2});
            ranges.put("widens", new int[] {1, 8});
            ranges.put("spills", new int[] {1, 250});
        }
        if (!ranges.containsKey(act.text)) {
            throw new Fault(1, act.place);
        }
        int[] range = ranges.get(act.text);
        return new Line(act.text, Math.max(p, g), range == null ? 0 : t.takeNumber(range[0], range[1]));
    }

    private static int live(World w, Line line) {
        if (line.act.equals("hour")) {
            if (w.hour + line.n > 600) {
                return 61;
            }
            for (int i = 0; i < line.n; i++) {
                w.pass();
            }
            return 0;
        }
        int more = Arrays.asList("turns", "wakes", "woos", "tilts", "widens", "spills").indexOf(line.act) * 10;
        int why = switch (line.act) {
            case "turns" -> w.turn(line.who);
            case "wakes" -> w.wake(line.who);
            case "woos" -> w.woo(line.who, line.n);
            case "tilts" -> w.tilt(line.who, line.n);
            case "widens" -> w.widen(line.who, line.n);
            default -> w.spill(line.who, line.n);
        };
        return why == 0 ? 0 : why + more;
    }

    public int rolled(int what) {
        return rolled == null || !in(0, what, 3) ? -1 : rolled[what];
    }

    private int ones;

    public int sentence() {
        Tokens t = new Tokens(tape, 200);
        tape.clear();
        ones = 0;
        try {
            Cond c = cond(t, 1);
            if (!t.see().is("$")) {
                throw new Fault(1, t.see().place);
            }
            saying = c;
            lastFault = 0;
            return ones;
        } catch (Fault f) {
            lastFault = f.kind;
            return -1 - f.place;
        }
    }

    private Cond cond(Tokens t, int depth) {
        Cond c = all(t, depth);
        if (t.see().is("or")) {
            t.take();
            Cond rest = cond(t, depth);
            return (w, g) -> c.of(w, g) || rest.of(w, g);
        }
        return c;
    }

    private Cond all(Tokens t, int depth) {
        Cond c = one(t, depth);
        if (t.see().is("and")) {
            t.take();
            Cond rest = all(t, depth);
            return (w, g) -> c.of(w, g) && rest.of(w, g);
        }
        return c;
    }

    private Cond one(Tokens t, int depth) {
        Token first = t.take();
        if (!List.of("not", "(", "lapsed", "run", "aslant", "both", "of", "left", "neck", "turned", "number")
                .contains(first.text)) {
            throw new Fault(1, first.place);
        }
        ones++;
        if (ones > 20 || depth > 8) {
            throw new Fault(4, first.place);
        }
        switch (first.text) {
            case "not": {
                Cond c = one(t, depth + 1);
                return (w, g) -> !c.of(w, g);
            }
            case "(": {
                Cond c = cond(t, depth + 1);
                t.takeText(")");
                return c;
            }
            case "lapsed":
                return (w, g) -> w.glasses.get(g).lapsed;
            case "run":
                return (w, g) -> w.glasses.get(g).left == 0;
            case "aslant":
                return (w, g) -> w.glasses.get(g).tilt == 1;
            case "both":
                return (w, g) -> w.awake(w.glasses.get(g).two[0]) && w.awake(w.glasses.get(g).two[1]);
            case "of": {
                int p = toldPerson(t, world);
                return (w, g) -> w.glassOf(p) == g;
            }
            default:
                return measure(t, first.text);
        }
    }

    private static Cond measure(Tokens t, String what) {
        Token sign = t.take();
        if (!List.of("<", "=", ">").contains(sign.text)) {
            throw new Fault(1, sign.place);
        }
        int n = t.takeNumber(0, 999);
        return (w, g) -> {
            Glass q = w.glasses.get(g);
            int have = switch (what) {
                case "left" -> q.left;
                case "neck" -> q.neck;
                case "turned" -> q.turned;
                default -> g;
            };
            int order = Integer.compare(have, n);
            return order == (sign.is("<") ? -1 : sign.is("=") ? 0 : 1);
        };
    }

    public int said(int k) {
        if (saying == null) {
            return -1;
        }
        List<Integer> of = new ArrayList<>();
        for (int g = 0; g < world.glasses.size(); g++) {
            if (saying.of(world, g)) {
                of.add(g);
            }
        }
        return k == -1 ? of.size() : in(0, k, of.size() - 1) ? of.get(k) : -1;
    }

    public boolean image(int k) {
        if (!in(0, k, 1)) {
            return false;
        }
        imageWorld[k] = world.copy();
        imageSaying[k] = saying;
        return true;
    }

    public boolean restore(int k) {
        if (!in(0, k, 1) || imageWorld[k] == null) {
            return false;
        }
        world = imageWorld[k].copy();
        saying = imageSaying[k];
        past.clear();
        return true;
    }

    public int count(int what) {
        return in(0, what, 8) ? new int[] {world.persons.size(), world.glasses.size(), world.goods.size(), world.grace,
            world.wish, world.early ? 1 : 0, world.level ? 1 : 0, world.damps.size(), tape.size()}[what] : -1;
    }
}
