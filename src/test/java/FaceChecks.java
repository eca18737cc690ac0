import java.io.IOException;
import java.lang.management.ManagementFactory;
import java.lang.reflect.Array;
import java.lang.reflect.Constructor;
import java.lang.reflect.Field;
import java.lang.reflect.Method;
import java.lang.reflect.Modifier;
import java.nio.file.Files;
import java.nio.file.Path;
import java.util.ArrayDeque;
import java.util.Collections;
import java.util.Deque;
import java.util.IdentityHashMap;
import java.util.Set;
import java.util.TreeSet;
import java.util.regex.Matcher;
import java.util.regex.Pattern;

/** The public face, as the document itself writes it, and the room that an object takes. */
public final class FaceChecks {
    private static final Pattern BLOCK = Pattern.compile("## The public face\\s+```java\\n(.*?)```", Pattern.DOTALL);
    private static final Pattern MEMBER = Pattern.compile("^    (public .*);$", Pattern.MULTILINE);
    /** Far below what one run may take, so that many objects fit into one room. */
    private static final int MOST_OBJECTS = 300;
    private static final int MOST_ELEMENTS = 8000;
    private static final int MOST_BYTES_MADE = 20000;

    private static int wrong = 0;

    private static void due(String what, Object got, Object want) {
        if (!got.equals(want)) {
            wrong++;
            System.out.println(what + " is " + got + ", due is " + want);
        }
    }

    /** Each member as the document writes it, but without the names of its parameters. */
    private static Set<String> faceOfTheDocument() throws IOException {
        Set<String> face = new TreeSet<>();
        Matcher block = BLOCK.matcher(Files.readString(Path.of("..", "shared", "DOC.md")));
        if (block.find()) {
            Matcher member = MEMBER.matcher(block.group(1));
            while (member.find()) {
                face.add(member.group(1).replaceAll("(int|boolean) \\w+(?=[,)])", "$1"));
            }
        }
        return face;
    }

    private static String parameters(Class<?>[] types) {
        StringBuilder s = new StringBuilder("(");
        for (Class<?> type : types) {
            s.append(s.length() == 1 ? "" : ", ").append(type.getSimpleName());
        }
        return s.append(')').toString();
    }

    private static String thrown(Class<?>[] types) {
        StringBuilder s = new StringBuilder();
        for (Class<?> type : types) {
            s.append(s.length() == 0 ? " throws " : ", ").append(type.getSimpleName());
        }
        return s.toString();
    }

    private static Set<String> faceOfTheClass() throws IllegalAccessException {
        Set<String> face = new TreeSet<>();
        for (Field f : GlassVows.class.getDeclaredFields()) {
            if (Modifier.isPublic(f.getModifiers())) {
                face.add(Modifier.toString(f.getModifiers()) + " " + f.getType() + " " + f.getName() + " = "
                        + (Modifier.isStatic(f.getModifiers()) ? f.get(null) : "?"));
            }
        }
        for (Constructor<?> c : GlassVows.class.getDeclaredConstructors()) {
            face.add(Modifier.toString(c.getModifiers()) + " GlassVows" + parameters(c.getParameterTypes())
                    + thrown(c.getExceptionTypes()));
        }
        for (Method m : GlassVows.class.getDeclaredMethods()) {
            if (Modifier.isPublic(m.getModifiers())) {
                face.add(Modifier.toString(m.getModifiers()) + " " + m.getReturnType() + " " + m.getName()
                        + parameters(m.getParameterTypes()) + thrown(m.getExceptionTypes()));
            }
        }
        return face;
    }

    /** Objects and arrays, and their fields and elements, that can be come at from one object. */
    private static int[] roomOf(Object whole) throws IllegalAccessException {
        Set<Object> seen = Collections.newSetFromMap(new IdentityHashMap<>());
        Deque<Object> open = new ArrayDeque<>();
        open.add(whole);
        int elements = 0;
        while (!open.isEmpty()) {
            Object part = open.remove();
            if (!seen.add(part)) {
                continue;
            }
            if (part.getClass().isArray()) {
                elements += Array.getLength(part);
                for (int i = 0; i < Array.getLength(part); i++) {
                    addPart(open, Array.get(part, i), part.getClass().getComponentType());
                }
            } else if (part.getClass().getName().startsWith("GlassVows")) {
                for (Field f : part.getClass().getDeclaredFields()) {
                    if (!Modifier.isStatic(f.getModifiers())) {
                        f.setAccessible(true);
                        elements++;
                        addPart(open, f.get(part), f.getType());
                    }
                }
            }
        }
        return new int[] {seen.size(), elements};
    }

    private static void addPart(Deque<Object> open, Object part, Class<?> type) {
        if (part != null && !type.isPrimitive() && !type.isEnum()) {
            open.add(part);
        }
    }

    private static void tell(GlassVows x, int[] words, int size) {
        for (int i = 0; i + 5 <= words.length; i += 5) {
            x.feed(words[i], words[i + 1], words[i + 2], words[i + 3], words[i + 4]);
        }
        x.end(size);
    }

    private static int[] wordsOf(String text) {
        int[] words = new int[(text.length() + 19) / 20 * 5];
        for (int i = 0; i < 4 * words.length; i++) {
            words[i / 4] = words[i / 4] << 8 | (i < text.length() ? text.charAt(i) : 0);
        }
        return words;
    }

    private static final String PARISH = "person ann 6 22 60;person bob 8 23 40;person cal 0 0 70;person dot 20 4 80;"
            + "glass vow ann bob 30 4;glass oath cal dot 10 1;good cow vow 9 4;damp 5 9;grace 9;early;level;";
    private static final String ROLL = "ann wakes;ann woos 3;vow spills 2;oath tilts 1;hour 9;";
    private static final String SENTENCE = "not (run or left<9) and (both or of ann and neck>2)";
    private static final int[] PARISH_WORDS = wordsOf(PARISH);
    private static final int[] ROLL_WORDS = wordsOf(ROLL);
    private static final int[] SENTENCE_WORDS = wordsOf(SENTENCE);

    /** Some 460 calls (an object is for 512), every one of the face, none that throws. */
    private static void useFully(GlassVows x) {
        for (int i = 0; i < 6; i++) {
            tell(x, PARISH_WORDS, PARISH.length());
            due("parish()", x.parish(), 11);
            tell(x, SENTENCE_WORDS, SENTENCE.length());
            due("sentence()", x.sentence(), 8);
            tell(x, ROLL_WORDS, ROLL.length());
            due("roll(1)", x.roll(1), -1);
            x.image(i & 1);
            ask(x);
            x.wake(0);
            x.turn(2);
            x.woo(2, 20);
            x.tilt(0, 2);
            x.widen(0, 1);
            x.spill(0, 1);
            x.drawn(60, i);
            x.hours(60);
            x.undo();
            x.restore(i & 1);
        }
    }

    private static void ask(GlassVows x) {
        for (int g = 0; g < 2; g++) {
            x.ends(g);
            x.lapses(g);
            x.watch(g, 60);
            x.waking(g);
            x.chosen(g);
            x.choices(g);
            x.play(g);
            x.playAt(g);
            x.steal(g, 600);
            x.parts(g);
            x.parted(g);
            x.together(g, 60);
            x.banns(g);
            x.byteAt(g);
            x.odds(g, 30, g);
            x.rings(g);
            x.said(g);
        }
        x.soonest();
        x.law(3, 60);
        x.good(0, 0);
        x.rolled(0);
        x.fault();
        x.now(0);
        x.count(0);
        x.person(0, 0);
        x.glass(0, 0);
    }

    private static long bytesMade() {
        return ManagementFactory.getThreadMXBean() instanceof com.sun.management.ThreadMXBean bean
                && bean.isThreadAllocatedMemorySupported() && bean.isThreadAllocatedMemoryEnabled()
                ? bean.getThreadAllocatedBytes(Thread.currentThread().getId()) : 0;
    }

    private static void room() throws IllegalAccessException {
        GlassVows x = new GlassVows();
        int[] fresh = roomOf(x);
        due("a new object: its objects (" + fresh[0] + ") are few", fresh[0] <= MOST_OBJECTS, true);
        due("a new object: its elements (" + fresh[1] + ") are few", fresh[1] <= MOST_ELEMENTS, true);
        useFully(x);
        int[] used = roomOf(x);
        due("objects behind its calls", used[0], fresh[0]);
        due("elements behind its calls", used[1], fresh[1]);
        // the first object's calls loaded all that is loaded once; what these make is theirs
        GlassVows y = new GlassVows();
        long before = bytesMade();
        useFully(y);
        long made = bytesMade() - before;
        due("bytes that its calls made (" + made + ") are few", made <= MOST_BYTES_MADE, true);
    }

    public static void main(String[] args) throws IOException, IllegalAccessException {
        Set<String> told = faceOfTheDocument();
        due("members that the document tells", told.size(), 44);
        due("the face", faceOfTheClass(), told);
        room();
        System.out.println(wrong == 0 ? "FaceChecks: as told" : "FaceChecks: " + wrong + " are not as told");
        if (wrong != 0) {
            System.exit(1);
        }
    }
}
