import java.io.IOException;
import java.lang.reflect.InvocationTargetException;
import java.lang.reflect.Method;
import java.lang.reflect.Modifier;
import java.nio.file.Files;
import java.nio.file.Path;
import java.util.ArrayList;
import java.util.Arrays;
import java.util.Comparator;
import java.util.List;
import java.util.NoSuchElementException;

/**
 * What the tests of edges have in common. Each of their tests is a static method with the sentence that it looks
 * at; it builds a new PuppetFilm by a Setup as often as it needs one, so that a refused call can be held against
 * the same run of calls without it.
 */
abstract class Edges {
    static final int NONE = PuppetFilm.NONE;
    static final int OFF = PuppetFilm.OFF;
    static final int LEAST = Integer.MIN_VALUE;
    static final int MOST = Integer.MAX_VALUE;
    static final Class<NoSuchElementException> NO_SUCH = NoSuchElementException.class;
    static final Class<IndexOutOfBoundsException> INDEX = IndexOutOfBoundsException.class;
    static final Class<IllegalArgumentException> ARGUMENT = IllegalArgumentException.class;
    static final Class<IllegalStateException> STATE = IllegalStateException.class;

    private static final int PROBE_CALLS = 200;

    /** The calls that lead to where a test begins. */
    interface Setup {
        void tell(PuppetFilm x);
    }

    /** One call, and its answer (0 of one without). */
    interface Call {
        int on(PuppetFilm x);
    }

    /** One call with one number left open. */
    interface Open {
        int on(PuppetFilm x, int v);
    }

    /** Answers by which two objects are held against each other. */
    private interface Probe {
        void ask(PuppetFilm x, List<Integer> answers);
    }

    private static int checks;
    private static int wrong;
    private static String test = "";
    /** The object that a test calls. */
    static PuppetFilm x;

    // How the tests are run.

    /** Runs each test of a class by its name; fails if one is wrong, or tells a sentence that is not in the document. */
    static void run(Class<?> tests) throws IOException {
        String doc = flat(Files.readString(Path.of("../shared/DOC.md")));
        Method[] methods = tests.getDeclaredMethods();
        Arrays.sort(methods, Comparator.comparing(Method::getName));
        int ran = 0;
        for (Method method : methods) {
            Says says = method.getAnnotation(Says.class);
            if (says == null) {
                continue;
            }
            test = method.getName();
            x = new PuppetFilm();
            for (String sentence : says.value()) {
                holds(doc.contains(flat(sentence)), "the document doesn't say: " + sentence);
            }
            call(method);
            ran++;
        }
        System.out.println(ran + " edges, " + checks + " checks, " + wrong + " wrong");
        if (wrong != 0 || ran == 0) {
            System.exit(1);
        }
    }

    private static void call(Method method) {
        try {
            if (!Modifier.isStatic(method.getModifiers())) {
                holds(false, "no static method");
                return;
            }
            method.setAccessible(true);
            method.invoke(null);
        } catch (InvocationTargetException e) {
            holds(false, "throws " + e.getCause() + at(e.getCause()));
        } catch (IllegalAccessException e) {
            holds(false, e.toString());
        }
    }

    private static String at(Throwable e) {
        for (StackTraceElement place : e.getStackTrace()) {
            if (place.getMethodName().contains(test)) {
                return " in line " + place.getLineNumber();
            }
        }
        return "";
    }

    static String flat(String text) {
        return text.replaceAll("\\s+", " ").trim();
    }

    // What is looked at.

    private static void holds(boolean fine, String what) {
        checks++;
        if (!fine) {
            wrong++;
            System.out.println(test + at(new Throwable()) + ": " + what);
        }
    }

    static void is(int due, int got) {
        holds(due == got, got + ", due is " + due);
    }

    static void is(boolean due, boolean got) {
        holds(due == got, got + ", due is " + due);
    }

    /** A row of answers to the numbers from 0 on. */
    static void are(int[] due, Open call) {
        for (int v = 0; v < due.length; v++) {
            int got = call.on(x, v);
            holds(due[v] == got, "at " + v + ": " + got + ", due is " + due[v]);
        }
    }

    static PuppetFilm after(Setup setup) {
        PuppetFilm film = new PuppetFilm();
        setup.tell(film);
        return film;
    }

    /** That a call throws just this, and that nothing has changed by it. */
    static void refuses(Class<? extends RuntimeException> due, Setup setup, Call call) {
        holds(due.getName().equals(thrownBy(setup, call)), "throws " + thrownBy(setup, call) + ", due is " + due.getName());
        changesNothing(setup, call);
    }

    /** That a call answers so, and that nothing has changed by it. */
    static void answersOnly(int due, Setup setup, Call call) {
        is(due, call.on(after(setup)));
        changesNothing(setup, call);
    }

    /** That a number is taken from low to high, and refused one beyond each, at the least and at the greatest int. */
    static void bounds(int low, int high, Class<? extends RuntimeException> due, Setup setup, Open call) {
        for (int v : new int[] {low, high}) {
            String thrown = thrownBy(setup, x -> call.on(x, v));
            holds(thrown.isEmpty(), v + " throws " + thrown);
        }
        for (int v : new int[] {low - 1, high + 1, LEAST, MOST}) {
            refuses(due, setup, x -> call.on(x, v));
        }
    }

    /** That all these are refused. */
    static void refusesAll(int[] values, Class<? extends RuntimeException> due, Setup setup, Open call) {
        for (int v : values) {
            refuses(due, setup, x -> call.on(x, v));
        }
    }

    private static String thrownBy(Setup setup, Call call) {
        PuppetFilm film = after(setup);
        try {
            call.on(film);
            return "";
        } catch (RuntimeException e) {
            return e.getClass().getName();
        }
    }

    // Two objects, held against each other.

    static void changesNothing(Setup setup, Call call) {
        for (Probe probe : PROBES) {
            PuppetFilm plain = after(setup);
            PuppetFilm tried = after(setup);
            try {
                call.on(tried);
            } catch (RuntimeException e) {
                // What it throws is looked at elsewhere.
            }
            List<Integer> due = new ArrayList<>();
            List<Integer> got = new ArrayList<>();
            probe.ask(plain, due);
            probe.ask(tried, got);
            holds(due.equals(got), "something has changed: " + got + ", due is " + due);
        }
    }

    private static final Probe[] PROBES = {
        Edges::askCounts, Edges::askShots, Edges::askPairs, Edges::askFrames, Edges::askPuppets, Edges::askBest,
        Edges::askSettings, Edges::askTape, Edges::askDrifts, Edges::askFloor, Edges::askFloorLater, Edges::askRoom,
        Edges::askBounds, Edges::askSwaps};

    private static void askCounts(PuppetFilm x, List<Integer> answers) {
        for (int what = 0; what < 6; what++) {
            answers.add(x.count(what));
        }
        answers.add(x.fault());
        answers.add(x.check());
        answers.add(x.foretold());
        answers.add(x.clear());
    }

    private static void askShots(PuppetFilm x, List<Integer> answers) {
        for (int shot = 0; shot < x.count(1); shot++) {
            for (int what = 0; what < 6; what++) {
                answers.add(x.told(shot, what));
            }
            answers.add(x.breach(shot, 0));
            answers.add(x.fall(shot, 0));
            answers.add(x.dirty(shot, 0));
            answers.add(x.leap(shot, MOST));
            answers.add(x.lasts(shot, shot % 3));
        }
    }

    private static void askPairs(PuppetFilm x, List<Integer> answers) {
        for (int shot = 0; shot < x.count(1); shot++) {
            for (int other = 0; other < shot; other++) {
                answers.add(x.clash(shot, other) ? 1 : 0);
            }
            answers.add(x.bump(shot, x.told(shot, 0) - 1, 3, 1));
            answers.add(x.alike(shot, 0, x.told(shot, 0) - 1) ? 1 : 0);
        }
    }

    private static void askFrames(PuppetFilm x, List<Integer> answers) {
        int puppets = x.count(0);
        for (int shot = 0; shot < x.count(1) && answers.size() < PROBE_CALLS; shot++) {
            int last = x.told(shot, 0) - 1;
            for (int frame = 0; frame <= last; frame += Math.max(1, last / 2)) {
                for (int p = 0; p < puppets; p++) {
                    answers.add(x.mouth(shot, frame, p));
                    answers.add(x.state(shot, frame, p));
                    answers.add(x.lean(shot, frame, p));
                    answers.add(x.step(shot, frame, p, 0));
                }
                answers.add(x.camera(shot, frame, frame % 3));
                answers.add(x.when(shot, frame));
            }
        }
    }

    private static void askPuppets(PuppetFilm x, List<Integer> answers) {
        for (int p = 0; p < x.count(0); p++) {
            for (int j = 0; j < 12 && x.count(1) > 0; j++) {
                answers.add(x.step(0, 0, p, j));
            }
            answers.add(x.kit(p, 0));
        }
    }

    private static void askBest(PuppetFilm x, List<Integer> answers) {
        int shots = Math.min(3, x.count(1));
        for (int what = 0; what < 6 && shots > 0; what++) {
            answers.add(x.best((1 << shots) - 1, what, 0));
        }
    }

    private static void askSettings(PuppetFilm x, List<Integer> answers) {
        for (int letter = 0; letter < 26; letter++) {
            answers.add(x.sound(letter, 1));
        }
        for (int unit = 0; unit < 3; unit++) {
            answers.add(x.set(0, unit, 1));
            answers.add(x.station(unit, NONE));
        }
        for (int set = 0; set < 8; set++) {
            answers.add(x.set(1, set, 0));
        }
    }

    /** What stands on the TAPE is seen by its SHOT, or by its FAULT. */
    private static void askTape(PuppetFilm x, List<Integer> answers) {
        int shots = x.count(1);
        answers.add(shots);
        if (shots < 12) {
            answers.add(x.shot(x.count(4)));
            answers.add(x.fault());
            answers.add(x.count(4));
            answers.add(x.count(1) > shots ? x.told(shots, 0) : 0);
        }
    }

    private static void askDrifts(PuppetFilm x, List<Integer> answers) {
        for (int shot = 0; shot < x.count(1) && answers.size() < PROBE_CALLS; shot++) {
            int last = x.told(shot, 0) - 1;
            for (int frame = 0; frame <= last; frame += Math.max(1, last / 5)) {
                answers.add(x.mended(shot, frame, x.count(3)));
                answers.add(x.mended(shot, frame, x.count(3) - 1));
                answers.add(x.paint(shot, frame, frame, true));
            }
        }
    }

    private static void askFloor(PuppetFilm x, List<Integer> answers) {
        for (int unit = 0; unit < 3; unit++) {
            for (int what = 0; what < 4; what++) {
                answers.add(x.on(unit, what));
            }
        }
        for (int set = 0; set < 8; set++) {
            answers.add(x.stands(set));
        }
        int animators = 6;
        while (animators > 0 && !hasAnimator(x, animators - 1)) {
            animators--;
        }
        answers.add(animators);
        for (int a = 0; a < animators; a++) {
            answers.add(x.worked(a));
        }
    }

    private static boolean hasAnimator(PuppetFilm x, int animator) {
        try {
            return x.worked(animator) >= 0;
        } catch (IllegalArgumentException e) {
            return false;
        }
    }

    private static void askFloorLater(PuppetFilm x, List<Integer> answers) {
        for (int turn = 1; turn <= 6; turn++) {
            answers.add(x.floor(turn * turn));
            for (int unit = 0; unit < 3; unit++) {
                answers.add(x.on(unit, 0));
                answers.add(x.on(unit, 2));
            }
            for (int shot = 0; shot < x.count(1); shot++) {
                answers.add(x.told(shot, 4));
            }
        }
    }

    private static void askRoom(PuppetFilm x, List<Integer> answers) {
        int shots = x.count(1);
        if (x.count(0) > 0) {
            answers.add(x.joint(0, NONE, 0, 0, 0, 0));
        }
        answers.add(x.puppet());
        answers.add(x.animator(1));
        answers.add(x.feed(0, 0, 0, 0, 0));
        if (shots > 0) {
            answers.add(x.row(0, 0, 0));
            answers.add(x.queue(2, shots - 1));
            answers.add(x.shoot(0, 1));
            answers.add(x.measure(0, 0, 7));
        }
    }

    /** LOW, HIGH and FEET are seen by a SHOT that goes beyond them. */
    private static void askBounds(PuppetFilm x, List<Integer> answers) {
        for (int p = 0; p < x.count(0) && x.count(1) < 12; p++) {
            empty(x);
            int shot = tell(x, "tie " + p + ";move " + p + ".0 32 in 32;move " + p + ".0 -32 in 64;");
            if (shot >= 0) {
                for (int frame = 0; frame < 96; frame += 8) {
                    answers.add(x.state(shot, frame, p));
                }
                answers.add(x.breach(shot, 0));
                answers.add(x.breach(shot, 2));
            }
        }
    }

    private static void askSwaps(PuppetFilm x, List<Integer> answers) {
        int puppets = x.count(0);
        for (int p = 0; p < puppets && x.count(1) > 0; p++) {
            answers.add(x.swap(0, p, (p + 1) % puppets));
        }
    }

    // Texts.

    /** The bytes of a text, twenty in a call; the last ones are followed by bytes 0. */
    static void feedText(PuppetFilm x, String text) {
        for (int at = 0; at < text.length(); at += 20) {
            int[] n = new int[5];
            for (int i = 0; i < 20; i++) {
                n[i / 4] = n[i / 4] << 8 | (at + i < text.length() ? text.charAt(at + i) & 255 : 0);
            }
            x.feed(n[0], n[1], n[2], n[3], n[4]);
        }
    }

    /** Empties the TAPE, by a text that has a FAULT. */
    static void empty(PuppetFilm x) {
        x.shot(0);
    }

    static int tell(PuppetFilm x, String text) {
        feedText(x, text);
        return x.shot(text.length());
    }

    static int tell(String text) {
        return tell(x, text);
    }

    /** A FAULT as its kind times 1,000 and its place; a SHOT's number without. */
    static int faultOf(PuppetFilm x, String text) {
        int answer = tell(x, text);
        return answer >= 0 ? answer : (answer + 10) * 1000 + x.fault();
    }

    /** A PUPPET of one JOINT, of length 10 and mass 1. */
    static int simple(PuppetFilm x, int low, int high) {
        int p = x.puppet();
        x.joint(p, NONE, low, high, 10, 1);
        return p;
    }

    static int simple(int low, int high) {
        return simple(x, low, high);
    }

    static String times(int n, String s) {
        return s.repeat(n);
    }
}
