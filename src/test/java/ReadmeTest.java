import java.lang.reflect.InvocationTargetException;
import java.lang.reflect.Method;
import java.lang.reflect.Modifier;
import java.nio.file.Files;
import java.nio.file.Path;
import java.util.ArrayList;
import java.util.HashMap;
import java.util.List;
import java.util.Map;
import java.util.Set;
import java.util.TreeSet;
import java.util.regex.Matcher;
import java.util.regex.Pattern;

/** Runs the tour of README.md, line by line, so that it tells no answer that the class does not give. */
public final class ReadmeTest {
    private static final Pattern LINE = Pattern.compile("(?:int (\\w+) = )?((?:film\\.|tell\\().*\\)); +// (.+)");
    private static final Pattern CALL = Pattern.compile("film\\.(\\w+)\\((.*)\\)");
    private static final Pattern TELL = Pattern.compile("tell\\(film, \"(.*)\"\\)");
    private static final Map<String, Integer> NAMES = new HashMap<>();
    private static final Set<String> CALLED = new TreeSet<>();
    private static final PuppetFilm FILM = new PuppetFilm();

    public static void main(String[] args) throws Exception {
        NAMES.put("PuppetFilm.NONE", PuppetFilm.NONE);
        NAMES.put("PuppetFilm.OFF", PuppetFilm.OFF);
        int lines = 0;
        int wrong = 0;
        boolean code = false;
        for (String line : Files.readAllLines(Path.of("README.md"))) {
            code = line.startsWith("```") ? line.equals("```java") : code;
            Matcher m = LINE.matcher(line);
            if (!code || !m.matches()) {
                wrong += code && line.contains(" // ") ? 1 : 0;
                continue;
            }
            lines++;
            String got = answer(m.group(2));
            if (m.group(1) != null) {
                NAMES.put(m.group(1), Integer.valueOf(got));
            }
            if (!got.equals(m.group(3))) {
                wrong++;
                System.out.println(line.trim() + ", but it is " + got);
            }
        }
        for (Method method : PuppetFilm.class.getDeclaredMethods()) {
            if (Modifier.isPublic(method.getModifiers()) && !CALLED.contains(method.getName())) {
                wrong++;
                System.out.println("not in the tour: " + method.getName());
            }
        }
        System.out.println(lines + " lines of the tour, " + wrong + " wrong");
        if (wrong != 0 || lines < 50) {
            System.exit(1);
        }
    }

    private static String answer(String call) throws Exception {
        Matcher text = TELL.matcher(call);
        if (text.matches()) {
            CALLED.add("feed");
            CALLED.add("shot");
            return Integer.toString(tell(FILM, text.group(1)));
        }
        Matcher m = CALL.matcher(call);
        if (!m.matches()) {
            return "no call";
        }
        return told(m.group(1), split(m.group(2)));
    }

    private static String told(String name, List<String> given) throws Exception {
        CALLED.add(name);
        for (Method method : PuppetFilm.class.getDeclaredMethods()) {
            if (!method.getName().equals(name)) {
                continue;
            }
            Class<?>[] kinds = method.getParameterTypes();
            Object[] values = new Object[kinds.length];
            for (int i = 0; i < kinds.length && i < given.size(); i++) {
                values[i] = kinds[i] == boolean.class ? (Object) Boolean.valueOf(given.get(i)) : (Object) value(given.get(i));
            }
            try {
                Object got = method.invoke(FILM, values);
                return got == null ? "nothing" : got.toString();
            } catch (InvocationTargetException e) {
                return "throws " + e.getCause().getClass().getSimpleName();
            }
        }
        return "no such call";
    }

    private static Integer value(String given) throws Exception {
        if (given.startsWith("film.")) {
            return Integer.valueOf(answer(given));
        }
        return NAMES.containsKey(given) ? NAMES.get(given) : Integer.valueOf(given);
    }

    private static List<String> split(String given) {
        List<String> parts = new ArrayList<>();
        for (String part : given.isEmpty() ? new String[0] : given.split(", ")) {
            parts.add(part);
        }
        return parts;
    }

    /** As README.md has it. */
    static int tell(PuppetFilm film, String text) {
        int[] five = new int[5];
        for (int at = 0; at < text.length(); at += 20) {
            for (int i = 0; i < 20; i++) {
                five[i / 4] = five[i / 4] << 8 | (at + i < text.length() ? text.charAt(at + i) : 0);
            }
            film.feed(five[0], five[1], five[2], five[3], five[4]);
        }
        return film.shot(text.length());
    }
}
