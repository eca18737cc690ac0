import java.io.IOException;
import java.lang.reflect.Field;
import java.lang.reflect.Method;
import java.lang.reflect.Modifier;
import java.nio.file.Files;
import java.nio.file.Path;
import java.util.ArrayList;
import java.util.Arrays;
import java.util.HashSet;
import java.util.List;
import java.util.Set;
import java.util.TreeSet;
import java.util.regex.Matcher;
import java.util.regex.Pattern;

/** What of ../shared/LANGUAGE.md can be seen in the classes and in the text of the program. */
public final class LanguageChecks {
    private static final String FACE = "feed(int,int,int,int,int)int end(int)boolean parish()int fault()int "
            + "person(int,int)int glass(int,int)int now(int)int turn(int)int wake(int)int woo(int,int)int "
            + "tilt(int,int)int widen(int,int)int spill(int,int)int hours(int)int undo()int ends(int)int "
            + "lapses(int)int soonest()int watch(int,int)int waking(int)int chosen(int)int choices(int)int "
            + "play(int)int playAt(int)int steal(int,int)int parts(int)int parted(int)int good(int,int)int "
            + "law(int,int)int rings(int)int together(int,int)int banns(int)int byteAt(int)int drawn(int,int)int "
            + "odds(int,int,int)int roll(int)int rolled(int)int sentence()int said(int)int image(int)boolean "
            + "restore(int)boolean count(int)int";
    private static final String[] BANNED = {"->", "::", "\\btry\\b", "\\bcatch\\b", "\\bfinally\\b", "\\bassert\\b",
        "\\bsynchronized\\b", "\\bMap\\b", "\\bSystem\\.(?!arraycopy)", "\\bString\\.", "Exact\\(", "\\bhashCode\\b",
        "\\btoString\\b", "\\bordinal\\b", "\\bprotected\\b", "\" \\+", "\\+ \"", "\\bstatic \\{"};

    private static int wrong = 0;

    private static void holds(int rule, String what, boolean is) {
        if (!is) {
            wrong++;
            System.out.println("rule " + rule + ": " + what);
        }
    }

    private static void face() {
        Set<String> want = new TreeSet<>(Arrays.asList(FACE.split(" ")));
        Set<String> got = new TreeSet<>();
        for (Method m : GlassVows.class.getDeclaredMethods()) {
            if (Modifier.isPublic(m.getModifiers())) {
                StringBuilder s = new StringBuilder(m.getName()).append('(');
                for (Class<?> type : m.getParameterTypes()) {
                    s.append(s.charAt(s.length() - 1) == '(' ? "" : ",").append(type);
                }
                got.add(s.append(')').append(m.getReturnType()).toString());
            } else {
                holds(1, m + " is not private", m.isSynthetic() || Modifier.isPrivate(m.getModifiers()));
            }
        }
        holds(1, "the face is " + got, got.equals(want));
        int modifiers = GlassVows.class.getModifiers();
        holds(1, "public and final", Modifier.isPublic(modifiers) && Modifier.isFinal(modifiers));
        for (Field f : GlassVows.class.getDeclaredFields()) {
            boolean isTold = f.getName().equals("NONE") && Modifier.isPublic(f.getModifiers());
            holds(1, f + " is not private", isTold || f.isSynthetic() || Modifier.isPrivate(f.getModifiers()));
        }
        holds(1, "one constructor", GlassVows.class.getDeclaredConstructors().length == 1);
    }

    private static void classesInside() {
        Set<String> faceNames = new HashSet<>();
        for (String call : FACE.split(" ")) {
            faceNames.add(call.substring(0, call.indexOf('(')));
        }
        List<Class<?>> all = new ArrayList<>(Arrays.asList(GlassVows.class.getDeclaredClasses()));
        holds(11, "classes: " + (all.size() + 1), all.size() + 1 <= 12);
        for (Class<?> c : all) {
            holds(1, c + " is static and not public", Modifier.isStatic(c.getModifiers())
                    && !Modifier.isPublic(c.getModifiers()));
            for (Method m : c.getDeclaredMethods()) {
                holds(1, m + " bears a name of the face", !faceNames.contains(m.getName()));
            }
        }
        all.add(GlassVows.class);
        for (Class<?> c : all) {
            int fields = 0;
            for (Field f : c.getDeclaredFields()) {
                boolean isStatic = Modifier.isStatic(f.getModifiers());
                holds(5, f + " is not final", !isStatic || Modifier.isFinal(f.getModifiers()));
                fields += isStatic ? 0 : 1;
            }
            holds(11, c + " has fields: " + fields, fields <= 20);
            for (Method m : c.getDeclaredMethods()) {
                holds(11, m + " has too many parameters", m.getParameterCount() <= 7);
            }
        }
    }

    private static void text(List<String> lines) {
        List<String> imports = lines.stream().filter(s -> s.startsWith("import ")).toList();
        holds(4, "imports are " + imports, imports.equals(List.of("import java.util.NoSuchElementException;")));
        for (String line : lines) {
            String code = line.replaceAll("//.*|^\\s*/?\\*.*", "");
            for (String banned : BANNED) {
                Matcher m = Pattern.compile(banned).matcher(code);
                holds(6, "'" + banned + "' in " + line, !m.find());
            }
            holds(10, "a long line: " + line, line.length() <= 120);
        }
    }

    private static void lengths(List<String> lines) {
        int from = -1;
        for (int i = 0; i < lines.size(); i++) {
            String line = lines.get(i);
            if (line.matches("(    |        )[\\w].*\\) ?(throws \\w+ )?\\{")) {
                from = i;
            }
            if (from >= 0 && line.matches("(    |        )\\}")) {
                holds(11, lines.get(from) + " is long", i - from < 60);
                from = -1;
            }
        }
    }

    public static void main(String[] args) throws IOException {
        face();
        classesInside();
        List<String> lines = Files.readAllLines(Path.of("src/main/java/GlassVows.java"));
        text(lines);
        lengths(lines);
        System.out.println(wrong == 0 ? "LanguageChecks: as told" : "LanguageChecks: " + wrong + " are not as told");
        if (wrong != 0) {
            System.exit(1);
        }
    }
}
