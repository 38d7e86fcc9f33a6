import java.lang.reflect.Array;
import java.lang.reflect.Constructor;
import java.lang.reflect.Field;
import java.lang.reflect.Method;
import java.lang.reflect.Modifier;
import java.nio.file.Files;
import java.nio.file.Path;
import java.util.ArrayList;
import java.util.Arrays;
import java.util.IdentityHashMap;
import java.util.List;
import java.util.Map;
import java.util.Set;
import java.util.TreeMap;
import java.util.TreeSet;
import java.util.regex.Matcher;
import java.util.regex.Pattern;

/** What of ../shared/LANGUAGE.md, and of the document's face, can be seen by a look at the source and the class. */
public final class LanguageTest {
    private static int wrong;
    private static final List<Class<?>> CLASSES = new ArrayList<>();

    private static void holds(boolean fine, String what) {
        if (!fine) {
            wrong++;
            System.out.println(what);
        }
    }

    public static void main(String[] args) throws Exception {
        CLASSES.add(PuppetFilm.class);
        CLASSES.addAll(List.of(PuppetFilm.class.getDeclaredClasses()));
        String source = Files.readString(Path.of("src/main/java/PuppetFilm.java"));
        face(Files.readString(Path.of("../shared/DOC.md")));
        members();
        words(withoutTextsAndComments(source));
        lengths(source);
        room();
        System.out.println(wrong == 0 ? "the rules hold" : wrong + " rules broken");
        if (wrong != 0) {
            System.exit(1);
        }
    }

    /** The signatures of the document's block, with their throws, and nothing else that is public. */
    private static void face(String doc) {
        Set<String> due = new TreeSet<>();
        Matcher line = Pattern.compile("(?m)^    public (static final int|int|boolean|void)? ?(\\w+)(\\(([^)]*)\\)(?: throws ([\\w, ]+))?| = .*);").matcher(doc);
        while (line.find()) {
            if (line.group(3).startsWith("(")) {
                List<String> types = new ArrayList<>();
                for (String parameter : line.group(4).isEmpty() ? new String[0] : line.group(4).split(", ")) {
                    types.add(parameter.split(" ")[0]);
                }
                due.add(line.group(1) + " " + line.group(2) + types + (line.group(5) == null ? "" : line.group(5)));
            } else {
                due.add("constant " + line.group(2));
            }
        }
        Set<String> got = new TreeSet<>();
        for (Method m : PuppetFilm.class.getDeclaredMethods()) {
            if (Modifier.isPublic(m.getModifiers())) {
                got.add(m.getReturnType() + " " + m.getName() + names(m.getParameterTypes()) + thrown(m.getExceptionTypes()));
            }
        }
        for (Constructor<?> c : PuppetFilm.class.getDeclaredConstructors()) {
            got.add("null " + c.getName() + names(c.getParameterTypes()) + thrown(c.getExceptionTypes()));
        }
        for (Field f : PuppetFilm.class.getDeclaredFields()) {
            if (Modifier.isPublic(f.getModifiers())) {
                got.add("constant " + f.getName());
            }
        }
        holds(due.size() == 46 && due.equals(got), "the face is " + got + ", due is " + due);
    }

    private static String names(Class<?>[] types) {
        List<String> names = new ArrayList<>();
        for (Class<?> type : types) {
            names.add(type.getSimpleName());
        }
        return names.toString();
    }

    private static String thrown(Class<?>[] types) {
        String names = names(types);
        return names.substring(1, names.length() - 1);
    }

    private static void members() {
        holds(CLASSES.size() <= 12, "too many classes");
        Set<String> face = new TreeSet<>();
        for (Method m : PuppetFilm.class.getDeclaredMethods()) {
            if (Modifier.isPublic(m.getModifiers())) {
                face.add(m.getName());
            } else {
                holds(Modifier.isPrivate(m.getModifiers()) || m.isSynthetic(), m + " is neither public nor private");
            }
        }
        for (Class<?> c : CLASSES) {
            holds(c == PuppetFilm.class || Modifier.isStatic(c.getModifiers()), c + " is not static");
            holds(c.getDeclaredClasses().length == 0 || c == PuppetFilm.class, c + " has classes inside");
            int fields = 0;
            for (Field f : c.getDeclaredFields()) {
                boolean constant = Modifier.isStatic(f.getModifiers());
                holds(!constant || Modifier.isFinal(f.getModifiers()), f + " is static, and not final");
                holds(c != PuppetFilm.class || Modifier.isPrivate(f.getModifiers()) || Modifier.isPublic(f.getModifiers()),
                        f + " is neither public nor private");
                fields += constant ? 0 : 1;
            }
            holds(fields <= 20, c + " has " + fields + " fields");
            for (Method m : c.getDeclaredMethods()) {
                holds(m.getParameterCount() <= 7, m + " takes too many");
                holds(c == PuppetFilm.class && Modifier.isPublic(m.getModifiers()) || !face.contains(m.getName()),
                        m + " bears a name of the face");
            }
        }
        for (Method m : PuppetFilm.class.getDeclaredMethods()) {
            holds(Modifier.isPublic(m.getModifiers()) || !face.contains(m.getName()), m + " bears a name of the face");
        }
    }

    private static String withoutTextsAndComments(String source) {
        return source.replaceAll("(?s)/\\*.*?\\*/", "").replaceAll("//[^\n]*", "").replaceAll("\"(\\\\.|[^\"\\\\])*\"", "##")
                .replaceAll("'(\\\\.|[^'\\\\])'", "C");
    }

    private static void words(String code) {
        for (String not : new String[] {
            "->", "::", "\\bcatch\\b", "\\btry\\b", "\\bfinally\\b", "\\bsynchronized\\b", "\\bassert\\b", "\\bpackage\\b", "\\bvar\\b",
            "Exact", "\\bInteger\\.[A-Z]", "\\bLong\\.[A-Z]", "\\bhashCode\\b", "\\btoString\\b", "static \\{", "@", "\\byield\\b",
            "\\bdouble\\b", "\\bfloat\\b", "\\bObject\\b", "\\bprotected\\b", "## \\+|\\+ ##", "\\[\\]\\[\\]\\[\\]", "\\bthis;"}) {
            Matcher found = Pattern.compile(not).matcher(code);
            holds(!found.find(), "the source has " + not);
        }
        Matcher imports = Pattern.compile("import ([^;]+);").matcher(code);
        while (imports.find()) {
            holds(Set.of("java.util.Arrays", "java.util.NoSuchElementException").contains(imports.group(1)), imports.group());
        }
        Matcher library = Pattern.compile("\\b(Math|Integer|Arrays|System|Long)\\.(\\w+)").matcher(code);
        Set<String> may = Set.of("Math.min", "Math.max", "Math.abs", "Math.floorDiv", "Integer.bitCount", "Arrays.fill", "System.arraycopy");
        while (library.find()) {
            holds(may.contains(library.group()), "the source calls " + library.group());
        }
        Matcher throwing = Pattern.compile("\\bthrow\\b(?! new (IllegalState|IllegalArgument|IndexOutOfBounds|NoSuchElement))").matcher(code);
        holds(!throwing.find(), "another throw");
    }

    /** The lines of each method, by its name; a name that stands twice has the lines of both. */
    private static Map<String, List<String>> methods(String source) {
        String[] lines = source.replaceAll("\\)\n\\s+throws", ") throws").split("\n");
        Pattern head = Pattern.compile("^(    |        )(?! )[^=;]*?(\\w+)\\([^=;]*\\)( throws [\\w, ]+)? \\{$");
        Map<String, List<String>> methods = new TreeMap<>();
        for (int i = 0; i < lines.length; i++) {
            Matcher m = head.matcher(lines[i]);
            if (m.find()) {
                int end = i + 1;
                while (end < lines.length && !lines[end].equals(m.group(1) + "}")) {
                    end++;
                }
                holds(end - i < 60, m.group(2) + ": a method of " + (end - i + 1) + " lines");
                methods.computeIfAbsent(m.group(2), k -> new ArrayList<>()).addAll(Arrays.asList(lines).subList(i + 1, end));
            }
        }
        return methods;
    }

    private static void lengths(String source) {
        for (String line : source.split("\n")) {
            holds(line.length() <= 130, "a long line: " + line);
        }
        Map<String, List<String>> methods = methods(source);
        Map<String, Set<String>> calls = new TreeMap<>();
        for (Map.Entry<String, List<String>> method : methods.entrySet()) {
            Set<String> to = new TreeSet<>();
            Matcher call = Pattern.compile("(?<!new )\\b(\\w+)\\(").matcher(withoutTextsAndComments(String.join("\n", method.getValue())));
            while (call.find()) {
                if (methods.containsKey(call.group(1)) && !call.group(1).equals(method.getKey())) {
                    to.add(call.group(1));
                }
            }
            calls.put(method.getKey(), to);
        }
        for (Method m : PuppetFilm.class.getDeclaredMethods()) {
            if (Modifier.isPublic(m.getModifiers())) {
                List<String> deepest = deepest(m.getName(), calls, List.of());
                holds(deepest.size() <= 8, "calls go deep: " + deepest);
            }
        }
    }

    private static List<String> deepest(String from, Map<String, Set<String>> calls, List<String> open) {
        List<String> way = new ArrayList<>(open);
        way.add(from);
        List<String> deepest = way;
        for (String to : calls.getOrDefault(from, Set.of())) {
            if (!way.contains(to)) {
                List<String> next = deepest(to, calls, way);
                deepest = next.size() > deepest.size() ? next : deepest;
            }
        }
        return deepest;
    }

    /** All that the greatest film holds is small beside the room, which all calls of a run share. */
    private static void room() throws IllegalAccessException {
        PuppetFilm film = new PuppetFilm();
        long empty = weigh(film);
        holds(empty < 8000, "an empty film takes " + empty);
        StringBuilder text = new StringBuilder("repeat 20[");
        for (int p = 0; p < 8; p++) {
            film.puppet();
            for (int j = 0; j < 8; j++) {
                film.joint(p, j - 1, 0, 0, 0, 0);
            }
        }
        text.append("move ");
        for (int i = 0; i < 50; i++) {
            text.append(i > 0 ? "," : "").append(i % 8).append('.').append(i / 8).append("-1");
        }
        text.append("in 20;];");
        for (int p = 0; p < 6; p++) {
            text.append("say").append(p).append("a at 0;");
        }
        for (int s = 0; s < 12; s++) {
            byte[] bytes = Arrays.copyOf(text.toString().getBytes(), 400);
            for (int at = 0; at < 400; at += 20) {
                int[] n = new int[5];
                for (int i = 0; i < 20; i++) {
                    n[i / 4] = n[i / 4] << 8 | bytes[at + i];
                }
                film.feed(n[0], n[1], n[2], n[3], n[4]);
            }
            holds(film.shot(text.length()) == s, "the text is wrong: " + film.fault() + " " + text);
        }
        film.best(31, 0, 0);
        film.foretold();
        film.breach(0, 0);
        film.fall(0, 0);
        long full = weigh(film);
        holds(full < 400000, "a full film takes " + full);
    }

    /** Fields and elements of all that an object holds. */
    private static long weigh(Object root) throws IllegalAccessException {
        Map<Object, Boolean> seen = new IdentityHashMap<>();
        List<Object> open = new ArrayList<>(List.of(root));
        long weight = 0;
        while (!open.isEmpty()) {
            Object it = open.remove(open.size() - 1);
            if (seen.put(it, true) != null) {
                continue;
            }
            if (it.getClass().isArray()) {
                weight += Array.getLength(it);
                for (int i = 0; it instanceof Object[] && i < Array.getLength(it); i++) {
                    if (Array.get(it, i) != null) {
                        open.add(Array.get(it, i));
                    }
                }
                continue;
            }
            for (Field f : it.getClass().getDeclaredFields()) {
                if (!Modifier.isStatic(f.getModifiers())) {
                    weight++;
                    f.setAccessible(true);
                    Object value = f.get(it);
                    if (!f.getType().isPrimitive() && value != null) {
                        open.add(value);
                    }
                }
            }
        }
        return weight;
    }
}
