import java.util.ArrayList;
import java.util.Arrays;
import java.util.HashMap;
import java.util.HashSet;
import java.util.List;
import java.util.Map;
import java.util.NoSuchElementException;
import java.util.Set;
import java.util.TreeSet;

/**
 * The document once more, written from its words alone and as slowly as they read, with the Java library:
 * what PuppetFilm is held against in ModelTest. It shares no code with it.
 */
final class Model {
    static final int NONE = -1;
    static final int OFF = -1000000;

    static final class Fault extends Exception {
        private static final long serialVersionUID = 1L;

        final int kind;
        final int place;

        Fault(int kind, int place) {
            this.kind = kind;
            this.place = place;
        }
    }

    static final class Joint {
        int parent, low, high, length, mass;
    }

    static final class Body {
        final List<Joint> joints = new ArrayList<>();
        int left, right, kit;
    }

    static final class Frame {
        final int[][] steps = new int[8][12];
        final int[] letters = new int[8];
        final int[] axes = new int[3];
        final boolean[] tied = new boolean[8];
        final boolean[] rigged = new boolean[8];
        boolean painted;
        int half = NONE;
    }

    static final class Film {
        final List<Frame> frames = new ArrayList<>();
        final Set<Integer> cast = new TreeSet<>();
        final Set<Integer> says = new TreeSet<>();
        int set;
        int shot;
    }

    /** One S, with those in it. */
    static final class Node {
        String word;
        int p, n, v;
        String name = "";
        String ease = "even";
        final List<int[]> aims = new ArrayList<>();
        final List<Node> body = new ArrayList<>();
    }

    static final class Measured {
        int shot, frame, drift, half;
    }

    static final class Row {
        int shot, unit, begin;
    }

    static final class Stage implements Cloneable {
        int half;
        int[] on = {NONE, NONE, NONE};
        List<List<Integer>> queues = new ArrayList<>(List.of(new ArrayList<>(), new ArrayList<>(), new ArrayList<>()));
        int[] dressing = {NONE, NONE, NONE};
        int[] dressed = new int[3];
        Map<Integer, Integer> stands = new HashMap<>();
        int[] station = {NONE, NONE, NONE};
        List<Integer> limits = new ArrayList<>();
        /** By animator and week. */
        Map<List<Integer>, Integer> worked = new HashMap<>();
        int[] shot = new int[12];

        Stage copy() {
            Stage c = new Stage();
            c.half = half;
            c.on = on.clone();
            for (int u = 0; u < 3; u++) {
                c.queues.get(u).addAll(queues.get(u));
            }
            c.dressing = dressing.clone();
            c.dressed = dressed.clone();
            c.stands.putAll(stands);
            c.station = station.clone();
            c.limits.addAll(limits);
            c.worked.putAll(worked);
            c.shot = shot.clone();
            return c;
        }
    }

    final List<Body> puppets = new ArrayList<>();
    final List<Film> films = new ArrayList<>();
    final int[] sounds = new int[26];
    final List<Integer> tape = new ArrayList<>();
    int faultPlace = NONE;
    final int[] rate = {10, 10, 10};
    final int[] dress = {1, 1, 1, 1, 1, 1, 1, 1};
    final List<Row> rows = new ArrayList<>();
    final List<Measured> measured = new ArrayList<>();
    Stage stage = new Stage();

    Model() {
        for (int i = 0; i < 26; i++) {
            sounds[i] = "12345678912345678912345678".charAt(i) - '0';
        }
    }

    private static void arg(boolean fine) {
        if (!fine) {
            throw new IllegalArgumentException();
        }
    }

    private static void index(boolean fine) {
        if (!fine) {
            throw new IndexOutOfBoundsException();
        }
    }

    private static boolean in(int v, int low, int high) {
        return low <= v && v <= high;
    }

    private Film film(int shot) {
        if (!in(shot, 0, films.size() - 1)) {
            throw new NoSuchElementException();
        }
        return films.get(shot);
    }

    // ---- puppets

    public int puppet() {
        if (puppets.size() == 8) {
            return -1;
        }
        puppets.add(new Body());
        return puppets.size() - 1;
    }

    public int joint(int puppet, int parent, int low, int high, int length, int mass) {
        index(in(puppet, 0, puppets.size() - 1));
        List<Joint> joints = puppets.get(puppet).joints;
        arg(in(parent, -1, joints.size() - 1));
        arg(in(low, -32, 0) && in(high, 0, 32) && in(length, 0, 100) && in(mass, 0, 100));
        if (joints.size() == 12) {
            return -1;
        }
        Joint j = new Joint();
        j.parent = parent;
        j.low = low;
        j.high = high;
        j.length = length;
        j.mass = mass;
        joints.add(j);
        return joints.size() - 1;
    }

    public void feet(int puppet, int left, int right) {
        index(in(puppet, 0, puppets.size() - 1));
        arg(in(left, -200, 200) && in(right, -200, 200) && left <= right);
        puppets.get(puppet).left = left;
        puppets.get(puppet).right = right;
    }

    public int kit(int puppet, int kit) {
        index(in(puppet, 0, puppets.size() - 1));
        arg(in(kit, 0, 3));
        int was = puppets.get(puppet).kit;
        puppets.get(puppet).kit = kit;
        return was;
    }

    public int sound(int letter, int mouth) {
        arg(in(letter, 0, 25) && in(mouth, 1, 9));
        int was = sounds[letter];
        sounds[letter] = mouth;
        return was;
    }

    private int end(Body body, int[] steps, int j) {
        int turn = 0;
        for (int k = j; k != NONE; k = body.joints.get(k).parent) {
            turn += steps[k];
        }
        int[] table = {0, 383, 707, 924, 1000, 924, 707, 383, 0, -383, -707, -924, -1000, -924, -707, -383};
        int parent = body.joints.get(j).parent;
        int base = parent == NONE ? 0 : end(body, steps, parent);
        return base + body.joints.get(j).length * table[((turn % 16) + 16) % 16];
    }

    private int leanOf(Body body, int[] steps) {
        int lean = 0;
        for (int j = 0; j < body.joints.size(); j++) {
            lean += body.joints.get(j).mass * end(body, steps, j);
        }
        return lean;
    }

    private boolean stands(Body body, int[] steps) {
        int mass = 0;
        for (Joint j : body.joints) {
            mass += j.mass;
        }
        int lean = leanOf(body, steps);
        return !(lean < body.left * 1000 * mass) && !(lean > body.right * 1000 * mass);
    }

    // ---- texts

    public int feed(int a, int b, int c, int d, int e) {
        if (tape.size() > 380) {
            return NONE;
        }
        for (int n : new int[] {a, b, c, d, e}) {
            tape.add(n >>> 24);
            tape.add(n >>> 16 & 255);
            tape.add(n >>> 8 & 255);
            tape.add(n & 255);
        }
        return tape.size();
    }

    public int shot(int n) {
        arg(in(n, 0, tape.size()));
        if (films.size() == 12) {
            throw new IllegalStateException();
        }
        List<Integer> bytes = new ArrayList<>(tape.subList(0, n));
        tape.clear();
        try {
            Film made = new Reading(bytes).film();
            films.add(made);
            faultPlace = NONE;
            return films.size() - 1;
        } catch (Fault fault) {
            faultPlace = fault.place;
            return fault.kind - 10;
        }
    }

    public int fault() {
        return faultPlace;
    }

    /** Reads tokens: a token is a word, a number or one sign. */
    private final class Reading {
        final List<String> tokens = new ArrayList<>();
        final List<Integer> places = new ArrayList<>();
        int at;
        int written;
        final Film made = new Film();
        final Set<Integer> cast = made.cast;

        Reading(List<Integer> bytes) {
            int i = 0;
            while (i < bytes.size()) {
                int b = bytes.get(i);
                int from = i;
                if (b == 32) {
                    i++;
                    continue;
                }
                StringBuilder token = new StringBuilder();
                if (b >= 'a' && b <= 'z') {
                    while (i < bytes.size() && bytes.get(i) >= 'a' && bytes.get(i) <= 'z') {
                        token.append((char) (int) bytes.get(i++));
                    }
                } else if (b >= '0' && b <= '9') {
                    while (i < bytes.size() && bytes.get(i) >= '0' && bytes.get(i) <= '9') {
                        token.append((char) (int) bytes.get(i++));
                    }
                } else {
                    token.append((char) b);
                    i++;
                }
                tokens.add(token.toString());
                places.add(from);
            }
            tokens.add("");
            places.add(bytes.size());
        }

        String next() {
            return tokens.get(at);
        }

        Fault fault(int kind) {
            return new Fault(kind, places.get(at));
        }

        void need(String token) throws Fault {
            if (!next().equals(token)) {
                throw fault(1);
            }
            at++;
        }

        String oneOf(String... words) throws Fault {
            for (String w : words) {
                if (next().equals(w)) {
                    at++;
                    return w;
                }
            }
            throw fault(1);
        }

        int number(int low, int high) throws Fault {
            if (!next().matches("[0-9]+")) {
                throw fault(1);
            }
            java.math.BigInteger big = new java.math.BigInteger(next());
            if (big.compareTo(java.math.BigInteger.valueOf(low)) < 0
                    || big.compareTo(java.math.BigInteger.valueOf(high)) > 0) {
                throw fault(2);
            }
            at++;
            return big.intValue();
        }

        int who() throws Fault {
            int p = number(0, puppets.size() - 1);
            cast.add(p);
            return p;
        }

        String ease() throws Fault {
            return next().matches("[a-z]+") ? oneOf("even", "slow", "soft", "both") : "even";
        }

        List<Node> all(int depth) throws Fault {
            List<Node> nodes = new ArrayList<>();
            while (!next().isEmpty() && !(depth > 0 && next().equals("]"))) {
                nodes.add(node(depth));
                need(";");
            }
            return nodes;
        }

        Node node(int depth) throws Fault {
            Node node = new Node();
            node.word = oneOf("hold", "move", "say", "tie", "free", "rig", "camera", "repeat");
            at--;
            written++;
            if (written > 60 || depth == 4 && node.word.equals("repeat")) {
                throw fault(3);
            }
            at++;
            switch (node.word) {
                case "hold" -> node.n = number(1, 200);
                case "move" -> {
                    do {
                        if (!node.aims.isEmpty()) {
                            at++;
                        }
                        int p = who();
                        need(".");
                        int j = number(0, puppets.get(p).joints.size() - 1);
                        int sign = 1;
                        if (next().equals("-")) {
                            sign = -1;
                            at++;
                        }
                        node.aims.add(new int[] {p, j, sign * number(0, 32)});
                    } while (next().equals(","));
                    need("in");
                    node.n = number(1, 200);
                    node.ease = ease();
                }
                case "say" -> {
                    node.p = who();
                    if (!next().matches("[a-z]{1,20}")) {
                        throw fault(1);
                    }
                    node.name = next();
                    at++;
                    need("at");
                    node.n = number(0, 400);
                    made.says.add(node.p);
                }
                case "tie", "free" -> node.p = who();
                case "rig" -> {
                    node.p = who();
                    node.name = oneOf("on", "off");
                }
                case "camera" -> {
                    node.p = List.of("pan", "tilt", "track").indexOf(oneOf("pan", "tilt", "track"));
                    node.v = number(0, 9999);
                    need("in");
                    node.n = number(1, 400);
                    node.ease = ease();
                }
                default -> {
                    node.n = number(1, 20);
                    need("[");
                    node.body.addAll(all(depth + 1));
                    need("]");
                }
            }
            return node;
        }

        Film film() throws Fault {
            List<Node> nodes = all(0);
            long[] sums = sums(nodes);
            if (sums[0] < 1 || sums[0] > 400 || sums[1] > 2000) {
                throw new Fault(4, places.get(places.size() - 1));
            }
            List<Node> done = new ArrayList<>();
            flatten(nodes, done);
            new Playing(made, (int) sums[0]).play(done);
            return made;
        }

        /** Frames, and S done. */
        long[] sums(List<Node> nodes) {
            long frames = 0;
            long done = 0;
            for (Node node : nodes) {
                long[] inner = sums(node.body);
                boolean takes = node.word.equals("hold") || node.word.equals("move");
                frames += takes ? node.n : node.word.equals("repeat") ? node.n * inner[0] : 0;
                done += 1 + (node.word.equals("repeat") ? node.n * inner[1] : 0);
            }
            return new long[] {frames, done};
        }

        void flatten(List<Node> nodes, List<Node> done) {
            for (Node node : nodes) {
                if (!node.word.equals("repeat")) {
                    done.add(node);
                    continue;
                }
                for (int i = 0; i < node.n; i++) {
                    flatten(node.body, done);
                }
            }
        }
    }

    private static int goes(int a, int b, long k, long n, String ease) {
        double share = switch (ease) {
            case "even" -> 0;
            case "slow" -> 1;
            case "soft" -> 2;
            default -> 3;
        };
        java.math.BigDecimal num;
        long den = n * n;
        if (share == 0) {
            num = java.math.BigDecimal.valueOf(k * n);
        } else if (share == 1) {
            num = java.math.BigDecimal.valueOf(k * k);
        } else if (share == 2) {
            num = java.math.BigDecimal.valueOf(2 * n * k - k * k);
        } else if (2 * k <= n) {
            num = java.math.BigDecimal.valueOf(2 * k * k);
        } else {
            num = java.math.BigDecimal.valueOf(n * n - 2 * (n - k) * (n - k));
        }
        return a + num.multiply(java.math.BigDecimal.valueOf(b - a))
                .divide(java.math.BigDecimal.valueOf(den), 0, java.math.RoundingMode.FLOOR).intValue();
    }

    /** First all frames with STEPS, ties and rigs; then AXES and mouths over them. */
    private static final class Playing {
        final Film film;
        final int total;

        Playing(Film film, int total) {
            this.film = film;
            this.total = total;
        }

        void play(List<Node> done) {
            Frame now = new Frame();
            List<int[]> cameras = new ArrayList<>();
            List<Node> cameraNodes = new ArrayList<>();
            for (Node node : done) {
                switch (node.word) {
                    case "hold" -> {
                        for (int i = 0; i < node.n; i++) {
                            film.frames.add(copy(now));
                        }
                    }
                    case "move" -> {
                        Frame start = copy(now);
                        Map<List<Integer>, Integer> goals = new HashMap<>();
                        for (int[] aim : node.aims) {
                            goals.put(List.of(aim[0], aim[1]), aim[2]);
                        }
                        for (int k = 1; k <= node.n; k++) {
                            for (Map.Entry<List<Integer>, Integer> goal : goals.entrySet()) {
                                int p = goal.getKey().get(0);
                                int j = goal.getKey().get(1);
                                now.steps[p][j] = goes(start.steps[p][j], goal.getValue(), k, node.n, node.ease);
                            }
                            film.frames.add(copy(now));
                        }
                    }
                    case "tie" -> now.tied[node.p] = true;
                    case "free" -> now.tied[node.p] = false;
                    case "rig" -> now.rigged[node.p] = node.name.equals("on");
                    case "camera" -> {
                        cameras.add(new int[] {film.frames.size()});
                        cameraNodes.add(node);
                    }
                    default -> { }
                }
            }
            for (int i = 0; i < cameraNodes.size(); i++) {
                runCamera(cameras.get(i)[0], cameraNodes.get(i));
            }
            for (Node node : done) {
                if (node.word.equals("say")) {
                    for (int f = 0; f < total; f++) {
                        int letter = f < node.n ? -1 : (f - node.n) / 2;
                        if (letter >= 0 && letter < node.name.length()) {
                            film.frames.get(f).letters[node.p] = node.name.charAt(letter) - 'a' + 1;
                        }
                    }
                }
            }
        }

        /** All frames from its first one on, to the end: a later camera overwrites them. */
        void runCamera(int from, Node node) {
            int was = from == 0 ? 0 : film.frames.get(from - 1).axes[node.p];
            for (int f = from; f < total; f++) {
                int k = Math.min(f - from + 1, node.n);
                film.frames.get(f).axes[node.p] = goes(was, node.v, k, node.n, node.ease);
            }
        }

        static Frame copy(Frame f) {
            Frame c = new Frame();
            for (int p = 0; p < 8; p++) {
                c.steps[p] = f.steps[p].clone();
                c.tied[p] = f.tied[p];
                c.rigged[p] = f.rigged[p];
            }
            return c;
        }
    }

    // ---- frames

    public int told(int shot, int what) {
        Film f = film(shot);
        arg(in(what, 0, 5));
        return switch (what) {
            case 0 -> f.frames.size();
            case 1 -> bits(f.cast);
            case 2 -> bits(f.says);
            case 3 -> f.set;
            case 4 -> stage.shot[shot];
            default -> {
                int n = 0;
                for (int i = 0; i < f.frames.size(); i++) {
                    n += dirty(shot, i) == i ? 1 : 0;
                }
                yield n;
            }
        };
    }

    private static int bits(Set<Integer> set) {
        int b = 0;
        for (int i : set) {
            b += 1 << i;
        }
        return b;
    }

    private Frame frame(int shot, int frame) {
        Film f = film(shot);
        return in(frame, 0, f.frames.size() - 1) ? f.frames.get(frame) : null;
    }

    public int step(int shot, int frame, int puppet, int joint) {
        Frame f = frame(shot, frame);
        if (f == null || !in(puppet, 0, puppets.size() - 1)
                || !in(joint, 0, puppets.get(puppet).joints.size() - 1)) {
            return OFF;
        }
        return f.steps[puppet][joint];
    }

    public int mouth(int shot, int frame, int puppet) {
        Frame f = frame(shot, frame);
        if (f == null || !in(puppet, 0, puppets.size() - 1)) {
            return NONE;
        }
        return mouthOf(f, puppet);
    }

    private int mouthOf(Frame f, int puppet) {
        return f.letters[puppet] == 0 ? 0 : sounds[f.letters[puppet] - 1];
    }

    public int camera(int shot, int frame, int axis) {
        Frame f = frame(shot, frame);
        return f == null || !in(axis, 0, 2) ? NONE : f.axes[axis];
    }

    public int state(int shot, int frame, int puppet) {
        Frame f = frame(shot, frame);
        if (f == null || !in(puppet, 0, puppets.size() - 1)) {
            return NONE;
        }
        int s = 0;
        if (f.tied[puppet]) {
            s += 1;
        }
        if (f.rigged[puppet]) {
            s += 2;
        }
        if (stands(puppets.get(puppet), f.steps[puppet])) {
            s += 4;
        }
        return s;
    }

    public int lean(int shot, int frame, int puppet) {
        Frame f = frame(shot, frame);
        if (f == null || !in(puppet, 0, puppets.size() - 1)) {
            return OFF;
        }
        return leanOf(puppets.get(puppet), f.steps[puppet]);
    }

    public int breach(int shot, int what) {
        Film f = film(shot);
        arg(in(what, 0, 2));
        for (int i = 0; i < f.frames.size(); i++) {
            for (int p = 0; p < puppets.size(); p++) {
                for (int j = 0; j < puppets.get(p).joints.size(); j++) {
                    Joint joint = puppets.get(p).joints.get(j);
                    int step = f.frames.get(i).steps[p][j];
                    if (step < joint.low || step > joint.high) {
                        return new int[] {i, p, j}[what];
                    }
                }
            }
        }
        return NONE;
    }

    public int fall(int shot, int what) {
        Film f = film(shot);
        arg(in(what, 0, 1));
        for (int i = 0; i < f.frames.size(); i++) {
            for (int p : f.cast) {
                if ((state(shot, i, p) & 5) == 0) {
                    return new int[] {i, p}[what];
                }
            }
        }
        return NONE;
    }

    public boolean alike(int shot, int frame, int other) {
        Film f = film(shot);
        index(in(frame, 0, f.frames.size() - 1) && in(other, 0, f.frames.size() - 1));
        Frame a = f.frames.get(frame);
        Frame b = f.frames.get(other);
        for (int p = 0; p < 8; p++) {
            if (mouthOf(a, p) != mouthOf(b, p)) {
                return false;
            }
        }
        return Arrays.deepEquals(a.steps, b.steps) && Arrays.equals(a.axes, b.axes)
                && Arrays.equals(a.tied, b.tied) && Arrays.equals(a.rigged, b.rigged);
    }

    public int swap(int shot, int puppet, int other) {
        Film f = film(shot);
        index(in(puppet, 0, puppets.size() - 1) && in(other, 0, puppets.size() - 1));
        if (!f.cast.contains(puppet)) {
            return -1;
        }
        if (f.cast.contains(other)) {
            return -2;
        }
        Body a = puppets.get(puppet);
        Body b = puppets.get(other);
        List<Integer> pa = new ArrayList<>();
        a.joints.forEach(j -> pa.add(j.parent));
        List<Integer> pb = new ArrayList<>();
        b.joints.forEach(j -> pb.add(j.parent));
        if (!pa.equals(pb)) {
            return -3;
        }
        for (Frame frame : f.frames) {
            for (int j = 0; j < b.joints.size(); j++) {
                if (!in(frame.steps[puppet][j], b.joints.get(j).low, b.joints.get(j).high)) {
                    return -4;
                }
            }
        }
        for (Frame frame : f.frames) {
            if (!frame.tied[puppet] && !stands(b, frame.steps[puppet])) {
                return -5;
            }
        }
        for (Frame frame : f.frames) {
            frame.steps[other] = frame.steps[puppet];
            frame.steps[puppet] = new int[12];
            frame.letters[other] = frame.letters[puppet];
            frame.letters[puppet] = 0;
            frame.tied[other] = frame.tied[puppet];
            frame.tied[puppet] = false;
            frame.rigged[other] = frame.rigged[puppet];
            frame.rigged[puppet] = false;
        }
        f.cast.remove(puppet);
        f.cast.add(other);
        if (f.says.remove(puppet)) {
            f.says.add(other);
        }
        return 1;
    }

    // ---- units and plans

    public int set(int what, int k, int v) {
        arg(in(what, 0, 2));
        int was;
        if (what == 0) {
            arg(in(k, 0, 2) && in(v, 1, 100));
            was = rate[k];
            rate[k] = v;
        } else if (what == 1) {
            arg(in(k, 0, 7) && in(v, 0, 20));
            was = dress[k];
            dress[k] = v;
        } else {
            arg(in(k, 0, films.size() - 1) && in(v, 0, 7));
            was = films.get(k).set;
            films.get(k).set = v;
        }
        return was;
    }

    public int lasts(int shot, int unit) {
        Film f = film(shot);
        arg(in(unit, 0, 2));
        int work = f.frames.size() * Math.max(1, f.cast.size());
        return work / rate[unit] + (work % rate[unit] > 0 ? 1 : 0);
    }

    public boolean clash(int shot, int other) {
        return clashes(film(shot), film(other));
    }

    private boolean clashes(Film a, Film b) {
        if (a.set == b.set) {
            return true;
        }
        for (int p : a.cast) {
            if (b.cast.contains(p)) {
                return true;
            }
        }
        for (int p : a.says) {
            for (int q : b.says) {
                if (puppets.get(p).kit == puppets.get(q).kit) {
                    return true;
                }
            }
        }
        return false;
    }

    private int[] bestRow;
    private int bestTop;
    private int bestSum;

    public int best(int shots, int what, int k) {
        List<Integer> list = new ArrayList<>();
        for (int i = 0; i < 32; i++) {
            if ((shots >>> i & 1) == 1) {
                arg(i < films.size());
                list.add(i);
            }
        }
        arg(in(list.size(), 1, 5) && in(what, 0, 5));
        bestRow = null;
        tryWays(list, new ArrayList<>());
        if (what == 4) {
            return bestTop;
        }
        if (what == 5) {
            return bestSum;
        }
        return in(k, 0, list.size() - 1) ? bestRow[k * 4 + what] : NONE;
    }

    /** All ways, with no thought spared; each is placed anew. */
    private void tryWays(List<Integer> list, List<int[]> way) {
        if (way.size() == list.size()) {
            judge(way);
            return;
        }
        for (int s : list) {
            boolean placed = way.stream().anyMatch(w -> w[0] == s);
            for (int u = 0; u < 3 && !placed; u++) {
                way.add(new int[] {s, u});
                tryWays(list, way);
                way.remove(way.size() - 1);
            }
        }
    }

    private void judge(List<int[]> way) {
        int[] row = new int[way.size() * 4];
        int top = 0;
        int sum = 0;
        for (int i = 0; i < way.size(); i++) {
            int s = way.get(i)[0];
            int u = way.get(i)[1];
            int end = 0;
            int ahead = NONE;
            int clashEnd = 0;
            for (int j = 0; j < i; j++) {
                if (row[j * 4 + 1] == u) {
                    end = row[j * 4 + 3];
                    ahead = row[j * 4];
                }
                if (clash(row[j * 4], s)) {
                    clashEnd = Math.max(clashEnd, row[j * 4 + 3]);
                }
            }
            boolean same = ahead != NONE && films.get(ahead).set == films.get(s).set;
            int begin = Math.max(end + (same ? 0 : dress[films.get(s).set]), clashEnd);
            row[i * 4] = s;
            row[i * 4 + 1] = u;
            row[i * 4 + 2] = begin;
            row[i * 4 + 3] = begin + lasts(s, u);
            top = Math.max(top, row[i * 4 + 3]);
            sum += row[i * 4 + 3];
        }
        if (bestRow == null || top < bestTop || top == bestTop && sum < bestSum
                || top == bestTop && sum == bestSum && Arrays.compare(told(row), told(bestRow)) < 0) {
            bestRow = row;
            bestTop = top;
            bestSum = sum;
        }
    }

    private static int[] told(int[] row) {
        int[] t = new int[row.length / 2];
        for (int i = 0; i < row.length / 4; i++) {
            t[2 * i] = row[4 * i];
            t[2 * i + 1] = row[4 * i + 1];
        }
        return t;
    }

    public int row(int shot, int unit, int begin) {
        film(shot);
        arg(in(unit, 0, 2) && in(begin, 0, 100000));
        if (rows.size() == 12) {
            return -1;
        }
        Row r = new Row();
        r.shot = shot;
        r.unit = unit;
        r.begin = begin;
        rows.add(r);
        return rows.size();
    }

    public int check() {
        for (int i = 0; i < rows.size(); i++) {
            Row r = rows.get(i);
            boolean twice = false;
            boolean meets = false;
            int soonest = dress[films.get(r.shot).set];
            for (int j = 0; j < i; j++) {
                Row q = rows.get(j);
                int qEnd = q.begin + lasts(q.shot, q.unit);
                twice |= q.shot == r.shot;
                if (q.unit == r.unit) {
                    boolean same = films.get(q.shot).set == films.get(r.shot).set;
                    soonest = qEnd + (same ? 0 : dress[films.get(r.shot).set]);
                }
                for (int h = r.begin; h < r.begin + lasts(r.shot, r.unit); h++) {
                    meets |= clash(q.shot, r.shot) && in(h, q.begin, qEnd - 1);
                }
            }
            int why = twice ? 1 : r.begin < soonest ? 2 : meets ? 3 : 0;
            if (why > 0) {
                return 4 * i + why;
            }
        }
        return NONE;
    }

    public int clear() {
        int n = rows.size();
        rows.clear();
        return n;
    }

    public int bump(int shot, int frame, int size, int what) {
        Film f = film(shot);
        index(in(frame, 0, f.frames.size() - 1));
        arg(in(size, 1, 1000) && in(what, 0, 2));
        int back = 0;
        for (int i = 1; i <= frame; i++) {
            if (alike(shot, i, i - 1)) {
                back = i;
            }
        }
        int[] cost = {
            size * (f.frames.size() - frame),
            (frame - back + 1) * f.cast.size() + size,
            f.frames.size() * f.cast.size() + 10 * dress[f.set]};
        int best = 0;
        for (int i = 1; i < 3; i++) {
            if (cost[i] < cost[best]) {
                best = i;
            }
        }
        return new int[] {best, cost[best], back}[what];
    }

    // ---- halves

    public int wait(int halves) {
        arg(in(halves, 0, 1000));
        stage.half += halves;
        return stage.half;
    }

    public int shoot(int shot, int frames) {
        Film f = film(shot);
        arg(in(frames, 0, 400));
        if (stage.shot[shot] + frames > f.frames.size()) {
            return -1;
        }
        for (int i = 0; i < frames; i++) {
            f.frames.get(stage.shot[shot]++).half = stage.half;
        }
        return stage.shot[shot];
    }

    public int when(int shot, int frame) {
        Film f = film(shot);
        index(in(frame, 0, f.frames.size() - 1));
        return f.frames.get(frame).half;
    }

    public int measure(int shot, int frame, int drift) {
        Film f = film(shot);
        index(in(frame, 0, f.frames.size() - 1));
        arg(in(drift, -1000, 1000));
        if (frame >= stage.shot[shot]) {
            return -1;
        }
        if (measured.size() == 80) {
            return -2;
        }
        Measured m = new Measured();
        m.shot = shot;
        m.frame = frame;
        m.drift = drift;
        m.half = stage.half;
        measured.add(m);
        return measured.size();
    }

    private Integer drift(int shot, int frame, int known) {
        Integer d = null;
        for (Measured m : measured) {
            if (m.shot == shot && m.frame == frame && m.half <= known) {
                d = m.drift;
            }
        }
        return d;
    }

    public int mended(int shot, int frame, int known) {
        Film f = film(shot);
        index(in(frame, 0, f.frames.size() - 1));
        int left = frame;
        while (left >= 0 && drift(shot, left, known) == null) {
            left--;
        }
        int right = frame;
        while (right < f.frames.size() && drift(shot, right, known) == null) {
            right++;
        }
        if (left < 0 && right == f.frames.size()) {
            return 0;
        }
        if (left < 0) {
            return drift(shot, right, known);
        }
        if (right == f.frames.size() || left == right) {
            return drift(shot, left, known);
        }
        double a = drift(shot, left, known);
        double b = drift(shot, right, known);
        return (int) Math.floor((a * (right - frame) + b * (frame - left)) / (right - left) + 1e-9);
    }

    public int leap(int shot, int known) {
        film(shot);
        int most = 0;
        for (int i = 0; i + 1 < stage.shot[shot]; i++) {
            most = Math.max(most, Math.abs(mended(shot, i, known) - mended(shot, i + 1, known)));
        }
        return most;
    }

    public int paint(int shot, int from, int to, boolean is) {
        Film f = film(shot);
        index(in(from, 0, to) && in(to, from, f.frames.size() - 1));
        int n = 0;
        for (Frame frame : f.frames.subList(from, to + 1)) {
            n += frame.painted == is ? 0 : 1;
            frame.painted = is;
        }
        return n;
    }

    public int dirty(int shot, int from) {
        Film f = film(shot);
        for (int i = 0; i < f.frames.size(); i++) {
            boolean rigged = false;
            for (boolean r : f.frames.get(i).rigged) {
                rigged |= r;
            }
            if (i >= from && rigged && !f.frames.get(i).painted) {
                return i;
            }
        }
        return NONE;
    }

    // ---- the floor

    public int animator(int halves) {
        arg(in(halves, 0, 14));
        if (stage.limits.size() == 6) {
            return -1;
        }
        stage.limits.add(halves);
        return stage.limits.size() - 1;
    }

    public int station(int unit, int animator) {
        index(in(unit, 0, 2));
        arg(in(animator, -1, stage.limits.size() - 1));
        int was = stage.station[unit];
        stage.station[unit] = animator;
        return was;
    }

    public int queue(int unit, int shot) {
        Film f = film(shot);
        index(in(unit, 0, 2));
        if (stage.queues.get(unit).size() == 10) {
            return -1;
        }
        for (int u = 0; u < 3; u++) {
            if (stage.on[u] == shot || stage.queues.get(u).contains(shot)) {
                return -2;
            }
        }
        if (stage.shot[shot] == f.frames.size()) {
            return -3;
        }
        stage.queues.get(unit).add(shot);
        return stage.queues.get(unit).size();
    }

    public int floor(int halves) {
        arg(in(halves, 0, 100));
        for (int i = 0; i < halves; i++) {
            half(stage, true);
        }
        return stage.half;
    }

    private void half(Stage s, boolean real) {
        for (int u = 0; u < 3; u++) {
            unit(s, u, real);
        }
        s.half++;
    }

    private void unit(Stage s, int u, boolean real) {
        if (s.on[u] == NONE) {
            s.queues.get(u).removeIf(q -> s.shot[q] == films.get(q).frames.size());
            for (int q : s.queues.get(u)) {
                if (free(s, u, q)) {
                    s.on[u] = q;
                    break;
                }
            }
            s.queues.get(u).remove((Integer) s.on[u]);
        }
        if (s.on[u] == NONE) {
            return;
        }
        Film f = films.get(s.on[u]);
        if (s.dressing[u] != f.set) {
            s.dressing[u] = NONE;
        }
        boolean standsHere = s.stands.getOrDefault(f.set, NONE) == u;
        if (!standsHere && s.dressing[u] == NONE) {
            Set<Integer> busy = new HashSet<>(s.stands.keySet());
            for (int d : s.dressing) {
                if (d != NONE) {
                    busy.add(d);
                }
            }
            if (busy.size() >= 3) {
                return;
            }
            s.dressing[u] = f.set;
            s.dressed[u] = 0;
        }
        if (s.dressing[u] != NONE) {
            boolean usedUp = s.dressed[u] < dress[f.set];
            if (usedUp) {
                s.dressed[u]++;
            }
            if (s.dressed[u] >= dress[f.set]) {
                s.stands.put(f.set, u);
                s.dressing[u] = NONE;
            }
            if (usedUp) {
                return;
            }
        }
        shootOn(s, u, f, real);
    }

    private void shootOn(Stage s, int u, Film f, boolean real) {
        int q = s.on[u];
        if (s.shot[q] < f.frames.size()) {
            int a = s.station[u];
            if (a == NONE) {
                return;
            }
            List<Integer> key = List.of(a, s.half / 14);
            if (s.worked.getOrDefault(key, 0) >= s.limits.get(a)) {
                return;
            }
            s.worked.merge(key, 1, Integer::sum);
            int n = Math.max(rate[u] / Math.max(f.cast.size(), 1), 1);
            for (int i = 0; i < n && s.shot[q] < f.frames.size(); i++) {
                if (real) {
                    f.frames.get(s.shot[q]).half = s.half;
                }
                s.shot[q]++;
            }
        }
        if (s.shot[q] == f.frames.size()) {
            s.on[u] = NONE;
            s.dressing[u] = NONE;
            boolean wanted = false;
            for (int v = 0; v < 3; v++) {
                wanted |= s.on[v] != NONE && films.get(s.on[v]).set == f.set;
                for (int w : s.queues.get(v)) {
                    wanted |= films.get(w).set == f.set;
                }
            }
            if (!wanted) {
                s.stands.remove(f.set);
            }
        }
    }

    private boolean free(Stage s, int u, int q) {
        int at = s.stands.getOrDefault(films.get(q).set, u);
        if (at != u) {
            return false;
        }
        for (int v = 0; v < 3; v++) {
            if (s.on[v] != NONE && clashes(films.get(s.on[v]), films.get(q))) {
                return false;
            }
        }
        return true;
    }

    public int on(int unit, int what) {
        index(in(unit, 0, 2));
        arg(in(what, 0, 3));
        int on = stage.on[unit];
        List<Integer> queue = stage.queues.get(unit);
        return switch (what) {
            case 0 -> on;
            case 1 -> on != NONE && stage.dressing[unit] == films.get(on).set ? stage.dressed[unit] : NONE;
            case 2 -> queue.size();
            default -> queue.isEmpty() ? NONE : queue.get(0);
        };
    }

    public int stands(int set) {
        arg(in(set, 0, 7));
        return stage.stands.getOrDefault(set, NONE);
    }

    public int worked(int animator) {
        arg(in(animator, 0, stage.limits.size() - 1));
        return stage.worked.getOrDefault(List.of(animator, stage.half / 14), 0);
    }

    public int foretold() {
        Stage s = stage.copy();
        for (int n = 0; n <= 2000; n++) {
            boolean over = true;
            for (int u = 0; u < 3; u++) {
                over &= s.on[u] == NONE && s.queues.get(u).isEmpty();
            }
            if (over) {
                return n;
            }
            half(s, false);
        }
        return NONE;
    }

    public int count(int what) {
        return switch (what) {
            case 0 -> puppets.size();
            case 1 -> films.size();
            case 2 -> rows.size();
            case 3 -> stage.half;
            case 4 -> tape.size();
            case 5 -> measured.size();
            default -> NONE;
        };
    }
}
