import java.lang.reflect.InvocationTargetException;
import java.lang.reflect.Method;
import java.util.ArrayList;
import java.util.HashMap;
import java.util.List;
import java.util.Map;
import java.util.Random;
import java.util.TreeMap;

/** Runs of calls, drawn with fixed seeds, on PuppetFilm and on the Model: each answer is to be the same. */
public final class ModelTest {
    private static final int CALLS = 512;
    private static final Map<String, Method> REAL = methods(PuppetFilm.class);
    private static final Map<String, Method> DUE = methods(Model.class);

    private final Random random;
    private final PuppetFilm film = new PuppetFilm();
    private final Model model = new Model();
    private final List<String> told = new ArrayList<>();
    private final Map<String, Integer> answers;
    private int calls;
    private boolean wrong;

    private ModelTest(long seed, Map<String, Integer> answers) {
        random = new Random(seed);
        this.answers = answers;
    }

    public static void main(String[] args) {
        int runs = args.length > 0 ? Integer.parseInt(args[0]) : 600;
        long first = args.length > 1 ? Long.parseLong(args[1]) : 1;
        Map<String, Integer> answers = new TreeMap<>();
        int bad = 0;
        for (long seed = first; seed < first + runs && bad < 3; seed++) {
            ModelTest test = new ModelTest(seed, answers);
            test.run((int) (seed % 4));
            if (test.wrong) {
                bad++;
                System.out.println("seed " + seed + ":");
                test.told.forEach(line -> System.out.println("  " + line));
            }
        }
        if (args.length > 2) {
            answers.forEach((k, v) -> System.out.println(k + " " + v));
        }
        System.out.println(bad == 0 ? "as the model in " + runs + " runs" : bad + " runs differ from the model");
        if (bad != 0) {
            System.exit(1);
        }
    }

    private static Map<String, Method> methods(Class<?> type) {
        Map<String, Method> byName = new HashMap<>();
        for (Method method : type.getDeclaredMethods()) {
            if (java.lang.reflect.Modifier.isPublic(method.getModifiers())) {
                byName.put(method.getName(), method);
            }
        }
        return byName;
    }

    private Object[] answerOf(Method method, Object on, Object[] args) {
        try {
            return new Object[] {method.invoke(on, args)};
        } catch (InvocationTargetException e) {
            return new Object[] {"throws." + e.getCause().getClass().getSimpleName()};
        } catch (IllegalAccessException e) {
            throw new RuntimeException(e);
        }
    }

    private Object call(String name, Object... args) {
        if (calls >= CALLS || wrong) {
            return null;
        }
        calls++;
        Object got = answerOf(REAL.get(name), film, args)[0];
        Object due = answerOf(DUE.get(name), model, args)[0];
        told.add(name + java.util.Arrays.toString(args) + " -> " + got + (java.util.Objects.equals(got, due) ? "" : ", due is " + due));
        wrong = !java.util.Objects.equals(got, due);
        String kind = due instanceof Integer n && n >= 0 ? "number" : String.valueOf(due);
        answers.merge(name + " " + (kind.startsWith("-") && kind.length() > 8 ? "below" : kind), 1, Integer::sum);
        return got;
    }

    private int below(int n) {
        return random.nextInt(n);
    }

    private boolean chance(int percent) {
        return below(100) < percent;
    }

    private int from(int low, int high) {
        return low + below(high - low + 1);
    }

    /** From low to high, mostly; else one beyond, or far away. */
    private int about(int low, int high) {
        int kind = below(60);
        if (kind == 0) {
            return low - 1;
        }
        if (kind == 1) {
            return high + 1;
        }
        if (kind == 2) {
            return new int[] {Integer.MIN_VALUE, Integer.MAX_VALUE, -1, 1000000, 31, 32, -2}[below(7)];
        }
        if (kind < 5) {
            return kind == 3 ? low : high;
        }
        return high < low ? low : from(low, high);
    }

    private void run(int profile) {
        setUp(profile);
        while (calls < CALLS && !wrong) {
            switch (profile) {
                case 0:
                    if (chance(30)) {
                        tellText();
                    } else {
                        askFrames();
                    }
                    break;
                case 1:
                    mix(8, 20, 60, 12);
                    break;
                case 2:
                    mix(6, 10, 10, 74);
                    break;
                default:
                    mix(10, 40, 25, 25);
            }
        }
    }

    private void mix(int texts, int frames, int plans, int floors) {
        int n = below(texts + frames + plans + floors);
        if (n < texts) {
            tellText();
        } else if (n < texts + frames) {
            askFrames();
        } else if (n < texts + frames + plans) {
            askPlan();
        } else {
            askFloor();
        }
    }

    private void setUp(int profile) {
        int puppets = profile == 2 ? from(3, 8) : from(0, 5);
        for (int p = 0; p < puppets; p++) {
            call("puppet");
            int joints = below(profile == 0 ? 6 : 3);
            for (int j = 0; j < joints; j++) {
                addJoint(p);
            }
            if (chance(60)) {
                call("feet", p, from(-200, 0), from(0, 200));
            }
            if (chance(60)) {
                call("kit", p, below(4));
            }
        }
        if (profile > 0) {
            for (int i = 0; i < from(2, 7); i++) {
                tellText();
            }
            for (int s = 0; s < model.films.size(); s++) {
                call("set", 2, s, below(profile == 2 ? 5 : 8));
            }
        }
        if (profile == 2) {
            for (int a = 0; a < from(1, 4); a++) {
                call("animator", from(1, 14));
                call("station", below(3), a);
            }
        }
    }

    private void addJoint(int p) {
        int joints = p >= 0 && p < model.puppets.size() ? model.puppets.get(p).joints.size() : 1;
        call("joint", p, chance(80) ? from(-1, joints - 1) : about(-1, joints - 1), about(-32, 0), about(0, 32),
                about(0, 100), about(0, chance(30) ? 0 : 100));
    }

    // ---- texts

    private String number(int n) {
        return (chance(5) ? "0" : "") + n;
    }

    private String gap() {
        return chance(8) ? "  " : chance(80) ? "" : " ";
    }

    private String who() {
        int n = model.puppets.size();
        return number(chance(2) || n == 0 ? n : below(n));
    }

    private String line(int depth) {
        int kind = below(depth < (chance(5) ? 5 : 4) ? 17 : 15);
        String[] eases = {"", "", "even", "slow", "soft", "both"};
        switch (kind) {
            case 0: case 1: case 2:
                return "hold " + number(chance(3) ? below(250) : from(1, 9));
            case 3: case 4: case 5: case 6: case 7:
                return move() + "in " + number(chance(3) ? below(210) : from(1, 12)) + " " + eases[below(6)];
            case 8: case 9:
                return "say " + who() + " " + word() + " at " + number(chance(2) ? 401 : below(chance(10) ? 400 : 20));
            case 10:
                return "tie " + who();
            case 11:
                return "free " + who();
            case 12:
                return "rig " + who() + (chance(60) ? " on" : " off");
            case 13: case 14:
                return "camera " + new String[] {"pan", "tilt", "track"}[below(3)] + " "
                        + number(chance(2) ? 10000 : below(chance(50) ? 100 : 9999)) + " in " + number(chance(2) ? 401 : from(1, 20))
                        + " " + eases[below(6)];
            default:
                return "repeat " + number(chance(3) ? 21 : from(1, chance(5) ? 20 : 3)) + gap() + "[" + lines(below(4), depth + 1) + gap() + "]";
        }
    }

    private String move() {
        StringBuilder out = new StringBuilder("move ");
        int many = chance(60) ? 1 : from(1, 4);
        for (int i = 0; i < many; i++) {
            int p = model.puppets.isEmpty() ? 0 : below(model.puppets.size());
            int joints = model.puppets.isEmpty() ? 0 : model.puppets.get(p).joints.size();
            int j = joints == 0 || chance(2) ? joints : below(joints);
            out.append(i > 0 ? gap() + "," : "").append(gap()).append(p).append(gap()).append('.').append(gap()).append(j)
                    .append(chance(50) ? " " : gap() + "-" + gap()).append(number(chance(2) ? 33 : below(chance(70) ? 6 : 33)));
        }
        return out.append(' ').toString();
    }

    private String word() {
        StringBuilder out = new StringBuilder();
        int length = chance(4) ? from(19, 22) : from(1, 5);
        for (int i = 0; i < length; i++) {
            out.append((char) ('a' + below(26)));
        }
        return out.toString();
    }

    private String lines(int n, int depth) {
        StringBuilder out = new StringBuilder();
        for (int i = 0; i < n; i++) {
            out.append(gap()).append(line(depth)).append(gap()).append(';');
        }
        return out.toString();
    }

    /** About 60 short S, a repeat among them. */
    private String crowd() {
        int many = from(57, 62);
        int repeat = below(many);
        StringBuilder out = new StringBuilder(chance(50) ? "hold 1;" : "");
        for (int i = 0; i < many; i++) {
            out.append(i == repeat ? "repeat 2[];" : chance(90) ? "tie 0;" : "hold2;");
        }
        return out.toString();
    }

    /** Repeats in one another, with about 400 frames or 2,000 S done. */
    private String nest() {
        int deep = from(2, chance(20) ? 6 : 4);
        StringBuilder out = new StringBuilder();
        for (int i = 0; i < deep; i++) {
            out.append("repeat ").append(from(1, deep < 3 ? 20 : 8)).append('[').append(chance(30) ? line(deep) + ";" : "");
        }
        out.append(lines(below(4), deep));
        for (int i = 0; i < deep; i++) {
            out.append("]").append(chance(2) ? "" : ";");
        }
        return out + (chance(50) ? "hold 1;" : "");
    }

    private String text() {
        int kind = below(20);
        String text = kind == 0 ? crowd() : kind == 1 ? nest() : lines(from(1, 7), 0) + gap();
        if (chance(25) && !text.isEmpty()) {
            int at = below(text.length());
            String signs = " ;.,-[]0123456789abcdefghijklmnopqrstuvwxyz";
            String put = chance(10) ? String.valueOf((char) below(256)) : chance(50) ? "" : "" + signs.charAt(below(signs.length()));
            text = text.substring(0, at) + put + text.substring(Math.min(text.length(), at + below(3)));
        }
        if (!chance(20) || text.length() > 400) {
            return text.substring(0, Math.min(text.length(), 400));
        }
        return text.substring(0, below(text.length() + 1));
    }

    private void tellText() {
        String text = text();
        for (int at = 0; at < text.length(); at += 20) {
            Object[] parts = new Object[5];
            for (int i = 0; i < 5; i++) {
                int n = 0;
                for (int b = 0; b < 4; b++) {
                    int k = at + 4 * i + b;
                    n = n << 8 | (k < text.length() ? text.charAt(k) : 0);
                }
                parts[i] = n;
            }
            call("feed", parts);
        }
        if (chance(2)) {
            call("shot", about(0, model.tape.size()));
        }
        call("shot", text.length());
        if (chance(60)) {
            call("fault");
        }
    }

    // ---- questions

    private int shot() {
        return about(0, model.films.size() - 1);
    }

    private int frame(int shot) {
        boolean is = shot >= 0 && shot < model.films.size();
        return about(0, is ? model.films.get(shot).frames.size() - 1 : 3);
    }

    private int who(int otherwise) {
        return model.puppets.isEmpty() ? otherwise : about(0, model.puppets.size() - 1);
    }

    private void askFrames() {
        int s = shot();
        switch (below(17)) {
            case 0:
                call("told", s, about(0, 5));
                break;
            case 1: case 2: case 3:
                call("step", s, frame(s), who(0), about(0, 3));
                break;
            case 4: case 5:
                call("mouth", s, frame(s), who(0));
                break;
            case 6: case 7:
                call("camera", s, frame(s), about(0, 2));
                break;
            case 8:
                call("state", s, frame(s), who(0));
                break;
            case 9:
                call("lean", s, frame(s), who(0));
                break;
            case 10:
                call("breach", s, about(0, 2));
                break;
            case 11:
                call("fall", s, about(0, 1));
                break;
            case 12:
                int f = frame(s);
                call("alike", s, f, chance(50) ? f + 1 : frame(s));
                break;
            case 13:
                call("swap", s, who(0), who(1));
                break;
            case 14:
                call("bump", s, frame(s), about(1, chance(70) ? 20 : 1000), about(0, 2));
                break;
            case 15:
                tellBody();
                break;
            default:
                paintOrDirty(s);
        }
    }

    private void tellBody() {
        switch (below(7)) {
            case 0:
                call("puppet");
                break;
            case 1:
                addJoint(who(0));
                break;
            case 2:
                call("feet", who(0), about(-200, 200), about(-200, 200));
                break;
            case 3: case 4:
                call("kit", who(0), about(0, 3));
                break;
            case 5:
                call("count", about(0, 5));
                break;
            default:
                call("sound", about(0, 25), about(1, 9));
        }
    }

    private void paintOrDirty(int s) {
        if (chance(50)) {
            call("dirty", s, chance(50) ? -1 : frame(s));
        } else {
            int f = frame(s);
            call("paint", s, f, chance(70) ? f + below(3) : frame(s), chance(60));
        }
    }

    private void askPlan() {
        int s = shot();
        switch (below(12)) {
            case 0: case 1:
                call("set", about(0, 2), about(0, 4), about(0, 8));
                break;
            case 2:
                call("set", 0, about(0, 2), chance(50) ? about(1, 20) : about(1, 100));
                break;
            case 3:
                call("lasts", s, about(0, 2));
                break;
            case 4:
                call("clash", s, shot());
                break;
            case 5:
                askBest();
                break;
            case 6: case 7: case 8:
                call("row", s, about(0, 2), about(0, chance(70) ? 30 : 100000));
                break;
            case 9:
                call("check");
                break;
            case 10:
                if (chance(25)) {
                    call("clear");
                } else {
                    call("check");
                }
                break;
            default:
                call("count", about(0, 5));
        }
    }

    private void askBest() {
        int most = chance(3) ? 6 : chance(4) ? 5 : 4;
        int bits = 0;
        for (int i = 0; i < most; i++) {
            bits |= model.films.isEmpty() ? 0 : 1 << below(model.films.size());
        }
        if (chance(4)) {
            bits = chance(50) ? random.nextInt() : 1 << about(0, 31);
        }
        for (int i = 0; i < from(1, 3); i++) {
            call("best", bits, about(0, 5), about(0, 4));
        }
    }

    private void askFloor() {
        int s = shot();
        switch (below(24)) {
            case 0:
                call("wait", chance(80) ? about(0, 3) : about(0, 1000));
                break;
            case 1: case 2:
                call("shoot", s, chance(70) ? about(0, 4) : about(0, 400));
                break;
            case 3: case 4:
                call("when", s, frame(s));
                break;
            case 5: case 6: case 7:
                call("measure", s, chance(60) ? below(6) : frame(s), about(-1000, 1000));
                break;
            case 8: case 9:
                call("mended", s, frame(s), chance(30) ? 100000 : about(0, model.stage.half + 1));
                break;
            case 10:
                call("leap", s, chance(30) ? 100000 : about(0, model.stage.half + 1));
                break;
            case 11:
                call(chance(70) ? "animator" : "worked", about(0, chance(50) ? 3 : 14));
                break;
            case 12:
                call("station", about(0, 2), about(-1, model.stage.limits.size() - 1));
                break;
            case 13: case 14: case 15:
                call("queue", about(0, 2), s);
                break;
            case 16: case 17:
                call("floor", chance(80) ? about(0, 3) : about(0, chance(80) ? 20 : 100));
                break;
            case 18: case 19:
                call("on", about(0, 2), about(0, 3));
                break;
            case 20:
                call("stands", about(0, 7));
                break;
            case 21:
                call("foretold");
                break;
            case 22:
                call("set", 2, s, about(0, 7));
                break;
            default:
                call("set", below(2), about(0, 2), about(0, 6));
        }
    }
}
