import java.lang.reflect.InvocationTargetException;
import java.lang.reflect.Method;
import java.util.ArrayList;
import java.util.Arrays;
import java.util.HashMap;
import java.util.List;
import java.util.Map;
import java.util.Random;
import java.util.TreeMap;

/**
 * Holds GlassVows against PlainModel over many drawn runs of calls (the draws are fixed by a seed).
 * Arguments: how many runs, the first seed; a third argument prints how the answers spread.
 */
public final class RandomChecks {
    private static final String[] PERSONS = {"ann", "bob", "cal", "dot", "eve", "fay", "gus", "abcdefg"};
    private static final String[] GLASSES = {"vow", "oath", "ring", "knot"};
    private static final String[] GOODS = {"cow", "pot", "bed", "hen", "cup", "bag"};
    private static final String[] TOKENS = {"person", "warms", "cools", "glass", "damp", "good", "grace", "wish",
        "early", "level", "turns", "wakes", "woos", "tilts", "widens", "spills", "hour", "or", "and", "not",
        "lapsed", "run", "aslant", "both", "of", "left", "neck", "turned", "number", ";", "<", "=", ">", "(", ")",
        ".", "zed", "ann", "bob", "vow", "oath", "cow", "0", "1", "9", "10", "24", "99", "100", "250", "251",
        "599", "600", "1000", "abcdefgh", "a1", "A", "\t", "-"};

    private final Random rng;
    private final GlassVows program = new GlassVows();
    private final PlainModel model = new PlainModel();
    private final List<String> calls = new ArrayList<>();
    private boolean agrees = true;

    private static final Map<String, Method> OF_PROGRAM = methods(GlassVows.class);
    private static final Map<String, Method> OF_MODEL = methods(PlainModel.class);
    private static final Map<String, Map<Object, Integer>> SPREAD = new TreeMap<>();

    private RandomChecks(long seed) {
        rng = new Random(seed);
    }

    private static Map<String, Method> methods(Class<?> type) {
        Map<String, Method> all = new HashMap<>();
        for (Method m : type.getDeclaredMethods()) {
            if (java.lang.reflect.Modifier.isPublic(m.getModifiers())) {
                all.put(m.getName(), m);
            }
        }
        return all;
    }

    private static Object answer(Object who, Method m, Object[] arguments) {
        try {
            return m.invoke(who, arguments);
        } catch (InvocationTargetException e) {
            return "throws " + e.getCause().getClass().getName();
        } catch (IllegalAccessException e) {
            return "no access";
        }
    }

    private void call(String name, int... numbers) {
        if (!agrees || calls.size() >= 512) {
            return;
        }
        Object[] arguments = Arrays.stream(numbers).boxed().toArray();
        Object got = answer(program, OF_PROGRAM.get(name), arguments);
        Object due = answer(model, OF_MODEL.get(name), arguments);
        calls.add(name + Arrays.toString(numbers) + " -> " + got);
        SPREAD.computeIfAbsent(name, k -> new TreeMap<>((a, b) -> a.toString().compareTo(b.toString())))
                .merge(got, 1, Integer::sum);
        if (!got.equals(due)) {
            agrees = false;
            System.out.println(calls.size() + ": " + name + Arrays.toString(numbers) + " answered " + got
                    + ", due is " + due);
        }
    }

    private int in(int a, int b) {
        return a + rng.nextInt(b - a + 1);
    }

    private boolean chance(int percent) {
        return rng.nextInt(100) < percent;
    }

    private <T> T one(T[] of) {
        return of[rng.nextInt(of.length)];
    }

    private void tell(String text) {
        call("end", 0);
        for (int i = 0; i < text.length() && i + 20 <= 940; i += 20) {
            int[] five = new int[5];
            for (int j = 0; j < 20; j++) {
                int b = i + j < text.length() ? text.charAt(i + j) : 0;
                five[j / 4] = five[j / 4] << 8 | b & 255;
            }
            call("feed", five);
        }
        call("end", Math.min(text.length(), 940));
    }

    private String parishText() {
        List<String> lines = new ArrayList<>();
        int persons = chance(70) ? in(2, 8) : in(0, 8);
        for (int p = 0; p < persons; p++) {
            lines.add("person " + PERSONS[p] + " " + in(0, 23) + " " + in(0, 23) + " " + in(20, 99));
        }
        for (int p = 0; p < persons; p++) {
            if (chance(30)) {
                lines.add("warms " + PERSONS[p] + " " + in(1, 9));
            }
            if (chance(30)) {
                lines.add("cools " + PERSONS[p] + " " + in(1, 9));
            }
        }
        int glasses = Math.min(persons / 2, in(1, 4));
        for (int g = 0; g < glasses; g++) {
            int flip = in(0, 1);
            int grains = chance(40) ? in(1, 12) : chance(60) ? in(5, 60) : in(1, 250);
            lines.add("glass " + GLASSES[g] + " " + PERSONS[2 * g + flip] + " " + PERSONS[2 * g + 1 - flip] + " "
                    + grains + " " + in(1, 9));
        }
        for (int k = 0; glasses > 0 && k < 6 && chance(60); k++) {
            lines.add("good " + GOODS[k] + " " + GLASSES[in(0, glasses - 1)] + " " + in(0, 20) + " " + in(0, 20));
        }
        for (int k = 0; k < 6 && chance(50); k++) {
            int from = chance(60) ? in(0, 60) : in(0, 599);
            lines.add("damp " + from + " " + in(from, Math.min(599, from + in(0, 100))));
        }
        addLaws(lines);
        StringBuilder text = new StringBuilder();
        for (String line : lines) {
            text.append(line).append(chance(10) ? " ;\n" : ";");
        }
        return text.toString();
    }

    private void addLaws(List<String> lines) {
        if (chance(60)) {
            lines.add("grace " + in(1, 9));
        }
        if (chance(60)) {
            lines.add("wish " + in(0, 99));
        }
        if (chance(50)) {
            lines.add("early");
        }
        if (chance(50)) {
            lines.add("level");
        }
    }

    private String rollText() {
        StringBuilder text = new StringBuilder();
        int lines = chance(5) ? 42 : in(0, 12);
        int persons = Math.max(1, model.count(0));
        int glasses = Math.max(1, model.count(1));
        for (int i = 0; i < lines; i++) {
            String person = PERSONS[in(0, persons - 1)];
            String glass = GLASSES[in(0, glasses - 1)];
            switch (in(0, 8)) {
                case 0 -> text.append(person).append(" turns;");
                case 1 -> text.append(person).append(" wakes;");
                case 2 -> text.append(person).append(" woos ").append(in(1, 20)).append(";");
                case 3 -> text.append(glass).append(" tilts ").append(in(0, 2)).append(";");
                case 4 -> text.append(glass).append(" widens ").append(in(1, 3)).append(";");
                case 5 -> text.append(glass).append(" spills ").append(in(1, 20)).append(";");
                default -> text.append("hour ").append(in(1, 20)).append(";");
            }
        }
        return text.toString();
    }

    private String condText(int depth) {
        StringBuilder text = new StringBuilder();
        int parts = in(1, 3);
        for (int i = 0; i < parts; i++) {
            if (i > 0) {
                text.append(chance(50) ? " or " : " and ");
            }
            text.append(oneText(depth));
        }
        return text.toString();
    }

    private String oneText(int depth) {
        String[] plain = {"lapsed", "run", "aslant", "both"};
        String[] measures = {"left", "neck", "turned", "number"};
        switch (depth > 0 ? in(0, 5) : in(2, 5)) {
            case 0:
                return "not " + oneText(depth - 1);
            case 1:
                return "(" + condText(depth - 1) + ")";
            case 2:
                return one(plain);
            case 3:
                return "of " + PERSONS[in(0, Math.max(1, model.count(0)) - 1)];
            default:
                return one(measures) + one(new String[] {"<", "=", ">"}) + (chance(70) ? in(0, 9) : in(0, 999));
        }
    }

    private String spoilt(String text, int most) {
        StringBuilder s = new StringBuilder(text);
        int changes = in(1, 2);
        for (int i = 0; i < changes; i++) {
            int at = in(0, s.length());
            switch (in(0, 5)) {
                case 0 -> s.insert(at, one(TOKENS));
                case 1 -> s.insert(at, " " + one(TOKENS) + " ");
                case 2 -> s.delete(at, Math.min(s.length(), at + in(1, 8)));
                case 3 -> s.insert(at, (char) in(0, 255));
                case 4 -> {
                    int from = in(0, at);
                    s.insert(at, s.substring(from, Math.min(at, from + 30)));
                }
                default -> {
                    while (s.length() < Math.min(937, most + in(-3, 6))) {
                        s.insert(at, chance(80) ? ' ' : '\n');
                    }
                }
            }
        }
        return s.length() > 940 ? s.substring(0, 940) : s.toString();
    }

    private String maybeSpoilt(String text, int most, int percent) {
        return chance(percent) ? spoilt(text, most) : text;
    }

    private int p() {
        return chance(95) ? in(0, Math.max(0, model.count(0) - 1)) : in(-1, 9);
    }

    private int g() {
        return chance(95) ? in(0, Math.max(0, model.count(1) - 1)) : in(-1, 5);
    }

    private void run(int steps) {
        if (chance(97)) {
            tell(maybeSpoilt(parishText(), 900, 5));
            call("parish");
        }
        for (int i = 0; i < steps && agrees; i++) {
            step();
        }
    }

    private void step() {
        switch (in(0, 22)) {
            case 22 -> callWildly();
            case 0, 1, 2, 3 -> act();
            case 4 -> call("hours", chance(90) ? in(1, 20) : in(-1, 62));
            case 5 -> call("undo");
            case 6, 7, 8 -> see();
            case 9, 10, 11, 12 -> ask();
            case 13, 14 -> askMore();
            case 15 -> call("drawn", chance(90) ? in(1, 12) : in(-1, 62), rng.nextInt());
            case 16 -> rollOnce();
            case 17, 18 -> sayOnce();
            case 19 -> call(chance(60) ? "restore" : "image", chance(90) ? in(0, 1) : in(-1, 2));
            case 20 -> {
                tell(maybeSpoilt(parishText(), 900, 75));
                call("parish");
                call("fault");
            }
            default -> tapeOnce();
        }
    }

    /** Any call of the face with numbers from the ends of what there is. */
    private void callWildly() {
        List<String> names = new ArrayList<>(new java.util.TreeSet<>(OF_PROGRAM.keySet()));
        String name = names.get(rng.nextInt(names.size()));
        int[] far = {Integer.MIN_VALUE, Integer.MIN_VALUE + 1, -1000, -2, -1, 0, 1, 2, 3, 4, 7, 8, 9, 15, 16, 23, 24, 31,
            32, 60, 61, 250, 251, 599, 600, 601, 1 << 16, Integer.MAX_VALUE - 1, Integer.MAX_VALUE};
        int[] numbers = new int[OF_PROGRAM.get(name).getParameterCount()];
        for (int i = 0; i < numbers.length; i++) {
            numbers[i] = chance(50) ? in(0, 4) : far[rng.nextInt(far.length)];
        }
        call(name, numbers);
    }

    private void act() {
        switch (in(0, 6)) {
            case 0 -> call("turn", p());
            case 1 -> call("wake", p());
            case 2 -> call("woo", p(), chance(95) ? in(1, 20) : in(-1, 22));
            case 3 -> call("tilt", g(), chance(95) ? in(0, 2) : in(-1, 4));
            case 4 -> call("widen", g(), chance(60) ? 1 : in(-1, 9));
            case 5 -> call("spill", g(), chance(80) ? in(1, 15) : in(-1, 252));
            default -> {
                int g = g();
                if (g >= 0 && g < model.count(1) && model.glass(g, 4) > 0) {
                    call("spill", g, model.glass(g, 4));
                }
            }
        }
    }

    private void see() {
        switch (in(0, 5)) {
            case 0, 1 -> call("person", p(), chance(97) ? in(0, 5) : in(-1, 7));
            case 2, 3 -> call("glass", g(), chance(97) ? in(0, 9) : in(-1, 11));
            case 4 -> call("now", chance(97) ? in(0, 5) : in(-1, 7));
            default -> call("count", in(-1, 9));
        }
    }

    private void ask() {
        switch (in(0, 9)) {
            case 0 -> call("ends", g());
            case 1 -> call("lapses", g());
            case 2 -> call("soonest");
            case 3, 4 -> {
                call("watch", g(), chance(60) ? 60 : in(0, 61));
                for (int k = -1; k < 3; k++) {
                    call("waking", k);
                }
                call("waking", in(3, 30));
            }
            case 5 -> call("play", g());
            case 6 -> call("playAt", g());
            case 7 -> call("law", chance(90) ? in(0, (1 << model.count(1)) - 1) : in(-1, 17), in(0, 61));
            case 8 -> call("together", g(), in(0, 61));
            default -> {
                call("banns", g());
                call("byteAt", in(-1, 30));
                call("byteAt", in(10, 25));
            }
        }
    }

    private void askMore() {
        switch (in(0, 8)) {
            case 0 -> call("parts", g());
            case 1 -> call("parted", g());
            case 2 -> call("good", in(-1, 6), in(-1, 3));
            case 3 -> {
                int g = g();
                boolean is = g >= 0 && g < model.count(1);
                tell("" + (char) (is && chance(80) ? chance(50) ? in(0, model.glass(g, 2)) : model.glass(g, 4)
                        : in(0, 255)) + (chance(5) ? "x" : ""));
                call("rings", g);
            }
            case 4 -> call("odds", g(), chance(95) ? in(1, 6) : in(0, 31), rng.nextInt());
            case 5 -> call("chosen", g());
            case 6 -> call("choices", g());
            default -> call("steal", g(), chance(80) ? Math.min(600, model.now(0) + in(0, 80)) : in(-1, 602));
        }
    }

    private void rollOnce() {
        tell(maybeSpoilt(rollText(), 400, 40));
        call("roll", chance(95) ? in(0, 1) : in(-1, 3));
        call("fault");
        for (int what = -1; what < 5; what++) {
            call("rolled", what);
        }
    }

    private void sayOnce() {
        if (chance(60)) {
            tell(maybeSpoilt(condText(chance(20) ? 10 : 3), 200, 30));
            call("sentence");
            call("fault");
        }
        for (int k = -1; k < 3; k++) {
            call("said", k);
        }
        call("said", in(-3, 5));
    }

    private void tapeOnce() {
        call("count", 8);
        call("feed", rng.nextInt(), rng.nextInt(), rng.nextInt(), rng.nextInt(), rng.nextInt());
        call("end", in(-1, 25));
        if (chance(20)) {
            call(one(new String[] {"parish", "sentence"}));
            call("fault");
        }
    }

    private void callHours() {
        if (chance(80)) {
            call("hours", 60);
        } else {
            call("drawn", 60, rng.nextInt());
        }
    }

    /** Some runs let many hours go first, so that the last hours of all are met too. */
    private void runToTheEnd(int steps) {
        tell(parishText());
        call("parish");
        for (int i = 0; i < 9; i++) {
            callHours();
        }
        for (int i = 0; i < steps && agrees; i++) {
            step();
        }
    }

    public static void main(String[] args) {
        int runs = args.length > 0 ? Integer.parseInt(args[0]) : 400;
        long seed = args.length > 1 ? Long.parseLong(args[1]) : 1;
        int wrong = 0;
        for (int i = 0; i < runs; i++) {
            RandomChecks r = new RandomChecks(seed + i);
            if (r.chance(20)) {
                r.runToTheEnd(60);
            } else {
                r.run(120);
            }
            if (!r.agrees) {
                wrong++;
                System.out.println("  in the run of seed " + (seed + i));
                if (args.length > 2) {
                    r.calls.forEach(System.out::println);
                }
            }
        }
        if (args.length > 2) {
            SPREAD.forEach((name, spread) -> System.out.println(name + " " + spread));
        }
        System.out.println(wrong == 0 ? "RandomChecks: " + runs + " runs agree" : "RandomChecks: " + wrong + " differ");
        if (wrong != 0) {
            System.exit(1);
        }
    }
}
