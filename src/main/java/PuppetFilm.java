import java.util.Arrays;
import java.util.NoSuchElementException;

public final class PuppetFilm {
    public static final int NONE = -1;
    public static final int OFF = -1000000;

    private static final int PUPPETS = 8;
    private static final int JOINTS = 12;
    private static final int MOST_STEPS = 32;
    private static final int KITS = 4;
    private static final int LETTERS = 26;
    private static final int MOUTHS = 9;
    private static final int SHOTS = 12;
    private static final int MOST_BYTES = 400;
    private static final int MOST_FRAMES = 400;
    private static final int AXES = 3;
    private static final int UNITS = 3;
    private static final int SETS = 8;
    private static final int WEEK = 14;
    /** Beyond every HALF that can be told. */
    private static final int NEVER = 1 << 30;

    private final Studio studio;
    private final Script script;
    private final Teller teller;
    private final Planner planner;
    private final Plan plan;
    private final Drifts drifts;
    private final Floor floor;
    private final Floor trial;
    private final byte[] tape;
    private int taped;
    private int faultPlace;

    public PuppetFilm() {
        studio = new Studio();
        script = new Script(studio);
        teller = new Teller(script);
        planner = new Planner(studio);
        plan = new Plan(studio);
        drifts = new Drifts();
        floor = new Floor(studio, true);
        trial = new Floor(studio, false);
        tape = new byte[MOST_BYTES];
        faultPlace = NONE;
    }

    public int puppet() {
        if (studio.puppetCount >= PUPPETS) {
            return -1;
        }
        return studio.addPuppet(new Puppet());
    }

    public int joint(int puppet, int parent, int low, int high, int length, int mass)
            throws IndexOutOfBoundsException, IllegalArgumentException {
        Puppet body = needPuppet(puppet);
        need(parent == NONE || body.hasJoint(parent));
        need(within(low, -MOST_STEPS, 0) && within(high, 0, MOST_STEPS));
        need(within(length, 0, 100) && within(mass, 0, 100));
        if (body.joints >= JOINTS) {
            return -1;
        }
        return body.addJoint(parent, low, high, length, mass);
    }

    public void feet(int puppet, int left, int right) throws IndexOutOfBoundsException, IllegalArgumentException {
        Puppet body = needPuppet(puppet);
        need(within(left, -200, 200) && within(right, -200, 200) && left <= right);
        body.left = left;
        body.right = right;
    }

    public int kit(int puppet, int kit) throws IndexOutOfBoundsException, IllegalArgumentException {
        Puppet body = needPuppet(puppet);
        need(within(kit, 0, KITS - 1));
        int was = body.kit;
        body.kit = kit;
        return was;
    }

    public int sound(int letter, int mouth) throws IllegalArgumentException {
        need(within(letter, 0, LETTERS - 1) && within(mouth, 1, MOUTHS));
        return swapIn(studio.sounds, letter, mouth);
    }

    public int feed(int a, int b, int c, int d, int e) {
        if (taped + 20 > MOST_BYTES) {
            return NONE;
        }
        feedNumber(a);
        feedNumber(b);
        feedNumber(c);
        feedNumber(d);
        feedNumber(e);
        return taped;
    }

    public int shot(int n) throws IllegalArgumentException, IllegalStateException {
        need(within(n, 0, taped));
        if (studio.shotCount >= SHOTS) {
            throw new IllegalStateException("there are 12 SHOTS");
        }
        script.read(tape, n);
        taped = 0;
        if (script.words.fault != 0) {
            faultPlace = script.words.place;
            return script.words.fault - 10;
        }
        faultPlace = NONE;
        return studio.addShot(teller.tell());
    }

    public int fault() {
        return faultPlace;
    }

    public int told(int shot, int what) throws NoSuchElementException, IllegalArgumentException {
        Shot it = needShot(shot);
        switch (what) {
            case 0:
                return it.frames;
            case 1:
                return it.cast;
            case 2:
                return it.says;
            case 3:
                return it.stage;
            case 4:
                return floor.takenOf(shot);
            case 5:
                return it.dirtyFrames();
            default:
                throw new IllegalArgumentException("another what");
        }
    }

    public int step(int shot, int frame, int puppet, int joint) throws NoSuchElementException {
        Shot it = needShot(shot);
        Puppet body = studio.puppetAt(puppet);
        if (!it.hasFrame(frame) || body == null || !body.hasJoint(joint)) {
            return OFF;
        }
        return it.stepOf(frame, puppet, joint);
    }

    public int mouth(int shot, int frame, int puppet) throws NoSuchElementException {
        Shot it = needShot(shot);
        if (!it.hasFrame(frame) || studio.puppetAt(puppet) == null) {
            return NONE;
        }
        return studio.mouthFor(it.letterOf(frame, puppet));
    }

    public int camera(int shot, int frame, int axis) throws NoSuchElementException {
        Shot it = needShot(shot);
        if (!it.hasFrame(frame) || !within(axis, 0, AXES - 1)) {
            return NONE;
        }
        return it.axisOf(frame, axis);
    }

    public int state(int shot, int frame, int puppet) throws NoSuchElementException {
        Shot it = needShot(shot);
        Puppet body = studio.puppetAt(puppet);
        if (!it.hasFrame(frame) || body == null) {
            return NONE;
        }
        int bits = it.isTied(frame, puppet) ? 1 : 0;
        bits += it.isRigged(frame, puppet) ? 2 : 0;
        return bits + (body.upright(it, frame, puppet) ? 4 : 0);
    }

    public int lean(int shot, int frame, int puppet) throws NoSuchElementException {
        Shot it = needShot(shot);
        Puppet body = studio.puppetAt(puppet);
        if (!it.hasFrame(frame) || body == null) {
            return OFF;
        }
        return body.leanOf(it, frame, puppet);
    }

    public int breach(int shot, int what) throws NoSuchElementException, IllegalArgumentException {
        Shot it = needShot(shot);
        need(within(what, 0, 2));
        for (int frame = 0; frame < it.frames; frame++) {
            int where = studio.breachIn(it, frame);
            if (where != NONE) {
                return what == 0 ? frame : what == 1 ? where / JOINTS : where % JOINTS;
            }
        }
        return NONE;
    }

    public int fall(int shot, int what) throws NoSuchElementException, IllegalArgumentException {
        Shot it = needShot(shot);
        need(within(what, 0, 1));
        for (int frame = 0; frame < it.frames; frame++) {
            int who = studio.fallenIn(it, frame);
            if (who != NONE) {
                return what == 0 ? frame : who;
            }
        }
        return NONE;
    }

    public boolean alike(int shot, int frame, int other) throws NoSuchElementException, IndexOutOfBoundsException {
        Shot it = needShot(shot);
        needFrame(it, frame);
        needFrame(it, other);
        return studio.sameFrames(it, frame, other);
    }

    public int swap(int shot, int puppet, int other) throws NoSuchElementException, IndexOutOfBoundsException {
        Shot it = needShot(shot);
        Puppet first = needPuppet(puppet);
        Puppet second = needPuppet(other);
        if (!it.isCast(puppet)) {
            return -1;
        }
        if (it.isCast(other)) {
            return -2;
        }
        if (!second.isBuiltLike(first)) {
            return -3;
        }
        if (!second.bearsAll(it, puppet)) {
            return -4;
        }
        if (!second.neverFalls(it, puppet)) {
            return -5;
        }
        it.recast(puppet, other);
        return 1;
    }

    public int set(int what, int k, int v) throws IllegalArgumentException {
        if (what == 0) {
            need(within(k, 0, UNITS - 1) && within(v, 1, 100));
            return swapIn(studio.rates, k, v);
        }
        if (what == 1) {
            need(within(k, 0, SETS - 1) && within(v, 0, 20));
            return swapIn(studio.dresses, k, v);
        }
        Shot it = studio.shotAt(k);
        if (what != 2 || it == null || !within(v, 0, SETS - 1)) {
            throw new IllegalArgumentException("none such");
        }
        int was = it.stage;
        it.stage = v;
        return was;
    }

    public int lasts(int shot, int unit) throws NoSuchElementException, IllegalArgumentException {
        Shot it = needShot(shot);
        need(within(unit, 0, UNITS - 1));
        return studio.spanOf(it, unit);
    }

    public boolean clash(int shot, int other) throws NoSuchElementException {
        Shot it = needShot(shot);
        return studio.collide(it, needShot(other));
    }

    public int best(int shots, int what, int k) throws IllegalArgumentException {
        need(shots > 0 && shots < 1 << studio.shotCount);
        need(within(Integer.bitCount(shots), 1, Planner.MOST) && within(what, 0, 5));
        planner.seek(shots);
        if (what == 4) {
            return planner.bestTop;
        }
        if (what == 5) {
            return planner.bestSum;
        }
        return planner.toldOf(k, what);
    }

    public int row(int shot, int unit, int begin) throws NoSuchElementException, IllegalArgumentException {
        needShot(shot);
        need(within(unit, 0, UNITS - 1) && within(begin, 0, 100000));
        return plan.addRow(shot, unit, begin);
    }

    public int check() {
        for (int row = 0; row < plan.rows; row++) {
            int why = plan.errorOf(row);
            if (why != 0) {
                return 4 * row + why;
            }
        }
        return NONE;
    }

    public int clear() {
        int had = plan.rows;
        plan.rows = 0;
        return had;
    }

    public int bump(int shot, int frame, int size, int what)
            throws NoSuchElementException, IndexOutOfBoundsException, IllegalArgumentException {
        Shot it = needShot(shot);
        needFrame(it, frame);
        need(within(size, 1, 1000) && within(what, 0, 2));
        int restart = studio.restartFor(it, frame);
        if (what == 2) {
            return restart;
        }
        int heads = Integer.bitCount(it.cast);
        int on = size * (it.frames - frame);
        int back = (frame - restart + 1) * heads + size;
        int again = it.frames * heads + 10 * studio.dressOf(it.stage);
        int least = Math.min(on, Math.min(back, again));
        if (what == 1) {
            return least;
        }
        return on == least ? 0 : back == least ? 1 : 2;
    }

    public int wait(int halves) throws IllegalArgumentException {
        need(within(halves, 0, 1000));
        floor.half += halves;
        return floor.half;
    }

    public int shoot(int shot, int frames) throws NoSuchElementException, IllegalArgumentException {
        Shot it = needShot(shot);
        need(within(frames, 0, MOST_FRAMES));
        if (frames > it.frames - floor.takenOf(shot)) {
            return -1;
        }
        floor.take(shot, frames);
        return floor.takenOf(shot);
    }

    public int when(int shot, int frame) throws NoSuchElementException, IndexOutOfBoundsException {
        Shot it = needShot(shot);
        needFrame(it, frame);
        return frame < floor.takenOf(shot) ? it.halfOf(frame) : NONE;
    }

    public int measure(int shot, int frame, int drift)
            throws NoSuchElementException, IndexOutOfBoundsException, IllegalArgumentException {
        Shot it = needShot(shot);
        needFrame(it, frame);
        need(within(drift, -1000, 1000));
        if (frame >= floor.takenOf(shot)) {
            return -1;
        }
        if (drifts.count >= Drifts.MOST) {
            return -2;
        }
        return drifts.add(shot, frame, drift, floor.half);
    }

    public int mended(int shot, int frame, int known) throws NoSuchElementException, IndexOutOfBoundsException {
        Shot it = needShot(shot);
        needFrame(it, frame);
        return drifts.mend(shot, frame, known);
    }

    public int leap(int shot, int known) throws NoSuchElementException {
        needShot(shot);
        int most = 0;
        int taken = floor.takenOf(shot);
        int last = drifts.mend(shot, 0, known);
        for (int frame = 1; frame < taken; frame++) {
            int next = drifts.mend(shot, frame, known);
            most = Math.max(most, Math.abs(next - last));
            last = next;
        }
        return most;
    }

    public int paint(int shot, int from, int to, boolean is) throws NoSuchElementException, IndexOutOfBoundsException {
        Shot it = needShot(shot);
        needFrame(it, from);
        needFrame(it, to);
        if (to < from) {
            throw new IndexOutOfBoundsException("the second frame is ahead of the first");
        }
        int changed = 0;
        for (int frame = from; frame <= to; frame++) {
            changed += it.paintFrame(frame, is) ? 1 : 0;
        }
        return changed;
    }

    public int dirty(int shot, int from) throws NoSuchElementException {
        Shot it = needShot(shot);
        for (int frame = Math.max(from, 0); frame < it.frames; frame++) {
            if (it.isDirty(frame)) {
                return frame;
            }
        }
        return NONE;
    }

    public int animator(int halves) throws IllegalArgumentException {
        need(within(halves, 0, WEEK));
        return floor.addAnimator(halves);
    }

    public int station(int unit, int animator) throws IndexOutOfBoundsException, IllegalArgumentException {
        needUnit(unit);
        need(within(animator, NONE, floor.animators - 1));
        return swapIn(floor.stations, unit, animator);
    }

    public int queue(int unit, int shot) throws NoSuchElementException, IndexOutOfBoundsException {
        Shot it = needShot(shot);
        needUnit(unit);
        if (floor.queuedIn(unit) >= Floor.LONGEST) {
            return -1;
        }
        if (floor.isEngaged(shot)) {
            return -2;
        }
        if (floor.takenOf(shot) >= it.frames) {
            return -3;
        }
        return floor.enqueue(unit, shot);
    }

    public int floor(int halves) throws IllegalArgumentException {
        need(within(halves, 0, 100));
        for (int half = 0; half < halves; half++) {
            floor.pass();
        }
        return floor.half;
    }

    public int on(int unit, int what) throws IndexOutOfBoundsException, IllegalArgumentException {
        needUnit(unit);
        switch (what) {
            case 0:
                return floor.onIn(unit);
            case 1:
                return floor.dressedIn(unit);
            case 2:
                return floor.queuedIn(unit);
            case 3:
                return floor.firstIn(unit);
            default:
                throw new IllegalArgumentException("another what");
        }
    }

    public int stands(int set) throws IllegalArgumentException {
        need(within(set, 0, SETS - 1));
        return floor.standsIn(set);
    }

    public int worked(int animator) throws IllegalArgumentException {
        need(within(animator, 0, floor.animators - 1));
        return floor.workedBy(animator);
    }

    public int foretold() {
        trial.copyFrom(floor);
        for (int gone = 0; gone <= Floor.FORESIGHT; gone++) {
            if (trial.isDone()) {
                return gone;
            }
            trial.pass();
            if (trial.isAsleep()) {
                return NONE;
            }
        }
        return NONE;
    }

    public int count(int what) {
        switch (what) {
            case 0:
                return studio.puppetCount;
            case 1:
                return studio.shotCount;
            case 2:
                return plan.rows;
            case 3:
                return floor.half;
            case 4:
                return taped;
            case 5:
                return drifts.count;
            default:
                return NONE;
        }
    }

    private void feedNumber(int number) {
        for (int shift = 24; shift >= 0; shift -= 8) {
            if (taped < tape.length) {
                tape[taped] = (byte) (number >> shift);
                taped++;
            }
        }
    }

    private Shot needShot(int shot) {
        Shot it = studio.shotAt(shot);
        if (it == null) {
            throw new NoSuchElementException("no such SHOT");
        }
        return it;
    }

    private Puppet needPuppet(int puppet) {
        Puppet body = studio.puppetAt(puppet);
        if (body == null) {
            throw new IndexOutOfBoundsException("no such PUPPET");
        }
        return body;
    }

    private static void needFrame(Shot shot, int frame) {
        if (!shot.hasFrame(frame)) {
            throw new IndexOutOfBoundsException("no such frame");
        }
    }

    private static void needUnit(int unit) {
        if (!within(unit, 0, UNITS - 1)) {
            throw new IndexOutOfBoundsException("no such UNIT");
        }
    }

    private static void need(boolean fine) {
        if (!fine) {
            throw new IllegalArgumentException("none such");
        }
    }

    private static boolean within(int value, int low, int high) {
        return value >= low && value <= high;
    }

    private static boolean hasBit(int bits, int n) {
        return n >= 0 && n < 32 && (bits >> n & 1) != 0;
    }

    private static int moveBit(int bits, int from, int to) {
        return hasBit(bits, from) ? bits & ~(1 << from) | 1 << to : bits;
    }

    private static int entry(int[] row, int at, int without) {
        return at >= 0 && at < row.length ? row[at] : without;
    }

    private static int swapIn(int[] row, int at, int value) {
        if (at < 0 || at >= row.length) {
            return NONE;
        }
        int was = row[at];
        row[at] = value;
        return was;
    }

    /** A PUPPET: its JOINTS, FEET and KIT. */
    private static final class Puppet {
        private static final int[] SIDEWAYS = {
            0, 383, 707, 924, 1000, 924, 707, 383, 0, -383, -707, -924, -1000, -924, -707, -383};

        int joints;
        final int[] parents = new int[JOINTS];
        final int[] lows = new int[JOINTS];
        final int[] highs = new int[JOINTS];
        final int[] lengths = new int[JOINTS];
        final int[] masses = new int[JOINTS];
        final int[] turns = new int[JOINTS];
        final int[] ends = new int[JOINTS];
        int left;
        int right;
        int kit;

        boolean hasJoint(int joint) {
            return joint >= 0 && joint < joints && joint < JOINTS;
        }

        int addJoint(int parent, int low, int high, int length, int mass) {
            int joint = joints;
            if (joint >= JOINTS) {
                return NONE;
            }
            parents[joint] = parent;
            lows[joint] = low;
            highs[joint] = high;
            lengths[joint] = length;
            masses[joint] = mass;
            joints++;
            return joint;
        }

        /** LEAN of this body in the STEPS that the SHOT has for one who may be another PUPPET. */
        int leanOf(Shot shot, int frame, int who) {
            int lean = 0;
            for (int j = 0; j < JOINTS && j < joints; j++) {
                int up = parents[j];
                boolean hangs = up >= 0 && up < j;
                turns[j] = shot.stepOf(frame, who, j) + (hangs ? turns[up] : 0);
                int across = entry(SIDEWAYS, turns[j] & 15, 0);
                ends[j] = lengths[j] * across + (hangs ? ends[up] : 0);
                lean += masses[j] * ends[j];
            }
            return lean;
        }

        boolean upright(Shot shot, int frame, int who) {
            int weight = 0;
            for (int j = 0; j < JOINTS && j < joints; j++) {
                weight += masses[j];
            }
            int lean = leanOf(shot, frame, who);
            return lean >= left * 1000 * weight && lean <= right * 1000 * weight;
        }

        boolean neverFalls(Shot shot, int who) {
            for (int frame = 0; frame < shot.frames; frame++) {
                if (!shot.isTied(frame, who) && !upright(shot, frame, who)) {
                    return false;
                }
            }
            return true;
        }

        /** The first JOINT that doesn't bear its STEP, or NONE. */
        int strained(Shot shot, int frame, int who) {
            for (int j = 0; j < JOINTS && j < joints; j++) {
                int step = shot.stepOf(frame, who, j);
                if (step < lows[j] || step > highs[j]) {
                    return j;
                }
            }
            return NONE;
        }

        boolean bearsAll(Shot shot, int who) {
            for (int frame = 0; frame < shot.frames; frame++) {
                if (strained(shot, frame, who) != NONE) {
                    return false;
                }
            }
            return true;
        }

        boolean isBuiltLike(Puppet other) {
            if (joints != other.joints) {
                return false;
            }
            for (int j = 0; j < JOINTS && j < joints; j++) {
                if (parents[j] != other.parents[j]) {
                    return false;
                }
            }
            return true;
        }
    }

    /**
     * A SHOT's frames. Only JOINTS that its text moves have a track of STEPS, and only PUPPETS
     * that say something a track of letters, so that a short text takes little room.
     */
    private static final class Shot {
        final int frames;
        final int tracks;
        final int voices;
        int cast;
        int says;
        int stage;
        final int[] trackOf = new int[PUPPETS * JOINTS];
        final int[] voiceOf = new int[PUPPETS];
        final byte[] steps;
        final byte[] letters;
        final int[] axes;
        final int[] tied;
        final int[] rigged;
        final int[] halves;
        final boolean[] painted;

        Shot(int frames, int tracks, int voices) {
            this.frames = Math.max(0, frames);
            this.tracks = Math.max(0, tracks);
            this.voices = Math.max(0, voices);
            steps = new byte[this.frames * this.tracks];
            letters = new byte[this.frames * this.voices];
            axes = new int[this.frames * AXES];
            tied = new int[this.frames];
            rigged = new int[this.frames];
            halves = new int[this.frames];
            painted = new boolean[this.frames];
            Arrays.fill(trackOf, NONE);
            Arrays.fill(voiceOf, NONE);
        }

        boolean hasFrame(int frame) {
            return frame >= 0 && frame < frames;
        }

        boolean isCast(int puppet) {
            return hasBit(cast, puppet);
        }

        int stepOf(int frame, int puppet, int joint) {
            if (!within(puppet, 0, PUPPETS - 1) || !within(joint, 0, JOINTS - 1)) {
                return 0;
            }
            return trackStep(frame, trackOf[puppet * JOINTS + joint]);
        }

        int trackStep(int frame, int track) {
            int at = frame * tracks + track;
            return track >= 0 && track < tracks && at >= 0 && at < steps.length ? steps[at] : 0;
        }

        void putStep(int frame, int track, int step) {
            int at = frame * tracks + track;
            if (track >= 0 && track < tracks && at >= 0 && at < steps.length) {
                steps[at] = (byte) step;
            }
        }

        /** 1 for a up to 26 for z; 0: a PUPPET says nothing then. */
        int letterOf(int frame, int puppet) {
            return voiceLetter(frame, entry(voiceOf, puppet, NONE));
        }

        int voiceLetter(int frame, int voice) {
            int at = frame * voices + voice;
            return voice >= 0 && voice < voices && at >= 0 && at < letters.length ? letters[at] : 0;
        }

        void putLetter(int frame, int puppet, int letter) {
            int voice = entry(voiceOf, puppet, NONE);
            int at = frame * voices + voice;
            if (voice >= 0 && voice < voices && at >= 0 && at < letters.length) {
                letters[at] = (byte) letter;
            }
        }

        int axisOf(int frame, int axis) {
            return within(axis, 0, AXES - 1) ? entry(axes, frame * AXES + axis, 0) : 0;
        }

        void putAxis(int frame, int axis, int value) {
            swapIn(axes, frame * AXES + axis, value);
        }

        boolean isTied(int frame, int puppet) {
            return hasBit(entry(tied, frame, 0), puppet);
        }

        boolean isRigged(int frame, int puppet) {
            return hasBit(entry(rigged, frame, 0), puppet);
        }

        int halfOf(int frame) {
            return entry(halves, frame, NONE);
        }

        boolean isDirty(int frame) {
            return hasFrame(frame) && rigged[frame] != 0 && !painted[frame];
        }

        int dirtyFrames() {
            int dirty = 0;
            for (int frame = 0; frame < frames; frame++) {
                dirty += isDirty(frame) ? 1 : 0;
            }
            return dirty;
        }

        boolean paintFrame(int frame, boolean is) {
            if (!hasFrame(frame) || painted[frame] == is) {
                return false;
            }
            painted[frame] = is;
            return true;
        }

        void recast(int from, int to) {
            if (!within(from, 0, PUPPETS - 1) || !within(to, 0, PUPPETS - 1)) {
                return;
            }
            for (int j = 0; j < JOINTS; j++) {
                trackOf[to * JOINTS + j] = trackOf[from * JOINTS + j];
                trackOf[from * JOINTS + j] = NONE;
            }
            voiceOf[to] = voiceOf[from];
            voiceOf[from] = NONE;
            cast = moveBit(cast, from, to);
            says = moveBit(says, from, to);
            for (int frame = 0; frame < frames; frame++) {
                tied[frame] = moveBit(tied[frame], from, to);
                rigged[frame] = moveBit(rigged[frame], from, to);
            }
        }
    }

    /** What PUPPETS, SHOTS, UNITS and SETS there are, and what can be told of them together. */
    private static final class Studio {
        final Puppet[] puppets = new Puppet[PUPPETS];
        int puppetCount;
        final Shot[] shots = new Shot[SHOTS];
        int shotCount;
        final int[] sounds = new int[LETTERS];
        final int[] rates = new int[UNITS];
        final int[] dresses = new int[SETS];

        Studio() {
            for (int letter = 0; letter < LETTERS; letter++) {
                sounds[letter] = letter % MOUTHS + 1;
            }
            Arrays.fill(rates, 10);
            Arrays.fill(dresses, 1);
        }

        Puppet puppetAt(int puppet) {
            return puppet >= 0 && puppet < puppets.length ? puppets[puppet] : null;
        }

        int addPuppet(Puppet puppet) {
            int number = puppetCount;
            if (number >= puppets.length) {
                return NONE;
            }
            puppets[number] = puppet;
            puppetCount++;
            return number;
        }

        int jointsOf(int puppet) {
            Puppet body = puppetAt(puppet);
            return body == null ? 0 : body.joints;
        }

        Shot shotAt(int shot) {
            return shot >= 0 && shot < shots.length ? shots[shot] : null;
        }

        int addShot(Shot shot) {
            int number = shotCount;
            if (number >= shots.length) {
                return NONE;
            }
            shots[number] = shot;
            shotCount++;
            return number;
        }

        int mouthFor(int letter) {
            return entry(sounds, letter - 1, 0);
        }

        int dressOf(int stage) {
            return entry(dresses, stage, 0);
        }

        /** Heads for the pace of work: an empty stage takes as long as one PUPPET. */
        int headsOf(Shot shot) {
            return Math.max(1, Integer.bitCount(shot.cast));
        }

        int rateOf(int unit) {
            return Math.max(1, entry(rates, unit, 1));
        }

        int spanOf(Shot shot, int unit) {
            int rate = rateOf(unit);
            return (shot.frames * headsOf(shot) + rate - 1) / rate;
        }

        /** The first breach in a frame, as PUPPET times 12 and JOINT, or NONE. */
        int breachIn(Shot shot, int frame) {
            for (int p = 0; p < PUPPETS; p++) {
                Puppet body = puppets[p];
                int joint = body == null || !shot.isCast(p) ? NONE : body.strained(shot, frame, p);
                if (joint != NONE) {
                    return p * JOINTS + joint;
                }
            }
            return NONE;
        }

        int fallenIn(Shot shot, int frame) {
            for (int p = 0; p < PUPPETS; p++) {
                Puppet body = puppets[p];
                if (body != null && shot.isCast(p) && !shot.isTied(frame, p) && !body.upright(shot, frame, p)) {
                    return p;
                }
            }
            return NONE;
        }

        boolean sameFrames(Shot shot, int frame, int other) {
            if (entry(shot.tied, frame, 0) != entry(shot.tied, other, 0)
                    || entry(shot.rigged, frame, 0) != entry(shot.rigged, other, 0)) {
                return false;
            }
            for (int axis = 0; axis < AXES; axis++) {
                if (shot.axisOf(frame, axis) != shot.axisOf(other, axis)) {
                    return false;
                }
            }
            for (int track = 0; track < shot.tracks; track++) {
                if (shot.trackStep(frame, track) != shot.trackStep(other, track)) {
                    return false;
                }
            }
            return sameMouths(shot, frame, other);
        }

        private boolean sameMouths(Shot shot, int frame, int other) {
            for (int voice = 0; voice < shot.voices; voice++) {
                if (mouthFor(shot.voiceLetter(frame, voice)) != mouthFor(shot.voiceLetter(other, voice))) {
                    return false;
                }
            }
            return true;
        }

        /** The frame that BACK goes to. */
        int restartFor(Shot shot, int frame) {
            for (int to = frame; to > 0; to--) {
                if (sameFrames(shot, to, to - 1)) {
                    return to;
                }
            }
            return 0;
        }

        boolean collide(Shot shot, Shot other) {
            return shot.stage == other.stage
                    || (shot.cast & other.cast) != 0
                    || (kitsOf(shot) & kitsOf(other)) != 0;
        }

        private int kitsOf(Shot shot) {
            int bits = 0;
            for (int p = 0; p < PUPPETS; p++) {
                Puppet body = puppets[p];
                if (body != null && (shot.says >> p & 1) != 0) {
                    bits |= 1 << body.kit;
                }
            }
            return bits;
        }
    }

    /** The bytes of a text as words, numbers and signs; behind the first FAULT it reads no more. */
    private static final class Words {
        static final int END = -1;
        private static final int CLAMP = 1000000;

        final byte[] text = new byte[MOST_BYTES];
        int length;
        int at;
        int fault;
        int place;
        int wordFrom;
        int wordLength;

        void load(byte[] tape, int n) {
            length = Math.max(0, Math.min(n, Math.min(tape.length, text.length)));
            System.arraycopy(tape, 0, text, 0, length);
            at = 0;
            fault = 0;
            place = NONE;
        }

        void fail(int kind, int where) {
            if (fault == 0) {
                fault = kind;
                place = where;
            }
        }

        int byteAt(int where) {
            return where >= 0 && where < length && where < text.length ? text[where] & 255 : END;
        }

        /** The next byte that is no blank, not read yet; END behind the last one. */
        int peek() {
            while (at < length && text[at] == ' ') {
                at++;
            }
            return at < length ? text[at] & 255 : END;
        }

        boolean trySign(int sign) {
            if (fault != 0 || peek() != sign) {
                return false;
            }
            at++;
            return true;
        }

        void needSign(int sign) {
            if (fault == 0 && peek() == sign) {
                at++;
            } else {
                fail(1, at);
            }
        }

        /** Reads small letters, perhaps none of them. */
        void takeWord() {
            peek();
            wordFrom = at;
            while (fault == 0 && at < length && within(byteAt(at), 'a', 'z')) {
                at++;
            }
            wordLength = at - wordFrom;
        }

        boolean wordIs(String word) {
            if (word.length() != wordLength) {
                return false;
            }
            for (int i = 0; i < wordLength; i++) {
                if (word.charAt(i) != byteAt(wordFrom + i)) {
                    return false;
                }
            }
            return true;
        }

        void needWord(String word) {
            takeWord();
            if (!wordIs(word)) {
                fail(1, wordFrom);
            }
        }

        /** A number from low to high, or NONE with a FAULT. */
        int number(int low, int high) {
            if (fault != 0) {
                return NONE;
            }
            peek();
            int from = at;
            int value = 0;
            while (at < length && within(byteAt(at), '0', '9')) {
                value = Math.min(CLAMP, value * 10 + byteAt(at) - '0');
                at++;
            }
            if (at == from) {
                fail(1, from);
                return NONE;
            }
            if (!within(value, low, high)) {
                fail(2, from);
                return NONE;
            }
            return value;
        }
    }

    /** One S of a text. */
    private static final class Line {
        static final int HOLD = 1;
        static final int MOVE = 2;
        static final int SAY = 3;
        static final int TIE = 4;
        static final int FREE = 5;
        static final int RIG = 6;
        static final int CAMERA = 7;
        static final int REPEAT = 8;

        int kind;
        /** The PUPPET, or the AXIS. */
        int who;
        /** Frames, the frame of a say, times of a repeat, or 1 for a rig that is on. */
        int amount;
        int goal;
        int ease;
        /** Where its A, or the letters of its WORD, begin, and how many these are. */
        int from;
        int count;
        /** The number of the S behind it, and behind all that stand in it. */
        int next;
    }

    /** Reads a text into its S, as far as the first FAULT. */
    private static final class Script {
        static final int EVEN = 0;
        static final int SLOW = 1;
        static final int SOFT = 2;
        static final int BOTH = 3;
        static final int DEEPEST = 4;
        private static final int MOST_LINES = 60;
        /** More A than 400 bytes can tell. */
        private static final int MOST_AIMS = 100;
        private static final int MOST_DONE = 2000;

        final Studio studio;
        final Words words = new Words();
        final Line[] lines = new Line[MOST_LINES];
        int size;
        final int[] aimWho = new int[MOST_AIMS];
        final int[] aimJoint = new int[MOST_AIMS];
        final int[] aimStep = new int[MOST_AIMS];
        int aims;
        int cast;
        int says;
        int depth;
        final int[] open = new int[DEEPEST + 1];
        final long[] frames = new long[DEEPEST + 1];
        final long[] done = new long[DEEPEST + 1];

        Script(Studio studio) {
            this.studio = studio;
            for (int i = 0; i < MOST_LINES; i++) {
                lines[i] = new Line();
            }
        }

        void read(byte[] tape, int n) {
            words.load(tape, n);
            size = 0;
            aims = 0;
            cast = 0;
            says = 0;
            depth = 0;
            Arrays.fill(frames, 0L);
            Arrays.fill(done, 0L);
            for (int turn = 0; turn <= MOST_BYTES && words.fault == 0 && words.peek() != Words.END; turn++) {
                if (depth > 0 && words.trySign(']')) {
                    closeRepeat();
                } else {
                    readRest(beginLine());
                }
            }
            if (depth > 0) {
                words.fail(1, words.length);
            }
            if (frames[0] < 1 || frames[0] > MOST_FRAMES || done[0] > MOST_DONE) {
                words.fail(4, words.length);
            }
        }

        int frameCount() {
            return (int) Math.min(frames[0], MOST_FRAMES);
        }

        /** Reads what an S begins with; null with a FAULT. */
        private Line beginLine() {
            words.takeWord();
            int kind = kindOfWord();
            if (kind == NONE) {
                words.fail(1, words.wordFrom);
                return null;
            }
            if (size >= MOST_LINES || kind == Line.REPEAT && depth >= DEEPEST) {
                words.fail(3, words.wordFrom);
                return null;
            }
            Line line = lines[size];
            line.kind = kind;
            size++;
            line.next = size;
            done[depth]++;
            return line;
        }

        private int kindOfWord() {
            if (words.wordIs("hold")) {
                return Line.HOLD;
            }
            if (words.wordIs("move")) {
                return Line.MOVE;
            }
            if (words.wordIs("say")) {
                return Line.SAY;
            }
            if (words.wordIs("tie")) {
                return Line.TIE;
            }
            if (words.wordIs("free")) {
                return Line.FREE;
            }
            if (words.wordIs("rig")) {
                return Line.RIG;
            }
            if (words.wordIs("camera")) {
                return Line.CAMERA;
            }
            return words.wordIs("repeat") ? Line.REPEAT : NONE;
        }

        private void readRest(Line line) {
            if (line == null) {
                return;
            }
            switch (line.kind) {
                case Line.REPEAT:
                    openRepeat(line);
                    return;
                case Line.HOLD:
                    line.amount = words.number(1, 200);
                    frames[depth] += line.amount;
                    break;
                case Line.MOVE:
                    readMove(line);
                    break;
                case Line.SAY:
                    readSay(line);
                    break;
                case Line.RIG:
                    line.who = readWho();
                    line.amount = readSwitch();
                    break;
                case Line.CAMERA:
                    readCamera(line);
                    break;
                default:
                    line.who = readWho();
            }
            words.needSign(';');
        }

        private int readWho() {
            int who = words.number(0, studio.puppetCount - 1);
            if (within(who, 0, PUPPETS - 1)) {
                cast |= 1 << who;
            }
            return who;
        }

        private void readMove(Line line) {
            line.from = aims;
            boolean more = true;
            for (int turn = 0; more && turn < MOST_AIMS; turn++) {
                readAim();
                more = words.trySign(',');
            }
            line.count = aims - line.from;
            words.needWord("in");
            line.amount = words.number(1, 200);
            line.ease = readEase();
            frames[depth] += line.amount;
        }

        private void readAim() {
            int who = readWho();
            words.needSign('.');
            int joint = words.number(0, studio.jointsOf(who) - 1);
            boolean below = words.trySign('-');
            int step = words.number(0, MOST_STEPS);
            if (words.fault == 0 && aims < MOST_AIMS) {
                aimWho[aims] = who;
                aimJoint[aims] = joint;
                aimStep[aims] = below ? -step : step;
                aims++;
            }
        }

        private int readEase() {
            if (words.fault != 0 || !within(words.peek(), 'a', 'z')) {
                return EVEN;
            }
            words.takeWord();
            if (words.wordIs("slow")) {
                return SLOW;
            }
            if (words.wordIs("soft")) {
                return SOFT;
            }
            if (words.wordIs("both")) {
                return BOTH;
            }
            if (!words.wordIs("even")) {
                words.fail(1, words.wordFrom);
            }
            return EVEN;
        }

        private void readSay(Line line) {
            line.who = readWho();
            words.takeWord();
            if (!within(words.wordLength, 1, 20)) {
                words.fail(1, words.wordFrom);
            }
            line.from = words.wordFrom;
            line.count = words.wordLength;
            words.needWord("at");
            line.amount = words.number(0, 400);
            if (within(line.who, 0, PUPPETS - 1)) {
                says |= 1 << line.who;
            }
        }

        private int readSwitch() {
            words.takeWord();
            if (words.wordIs("on")) {
                return 1;
            }
            if (!words.wordIs("off")) {
                words.fail(1, words.wordFrom);
            }
            return 0;
        }

        private void readCamera(Line line) {
            words.takeWord();
            line.who = words.wordIs("pan") ? 0 : words.wordIs("tilt") ? 1 : words.wordIs("track") ? 2 : NONE;
            if (line.who == NONE) {
                words.fail(1, words.wordFrom);
            }
            line.goal = words.number(0, 9999);
            words.needWord("in");
            line.amount = words.number(1, 400);
            line.ease = readEase();
        }

        private void openRepeat(Line line) {
            line.amount = words.number(1, 20);
            words.needSign('[');
            if (words.fault == 0 && depth < DEEPEST) {
                depth++;
                open[depth] = size - 1;
                frames[depth] = 0;
                done[depth] = 0;
            }
        }

        private void closeRepeat() {
            int number = open[depth];
            Line line = lines[Math.max(0, Math.min(number, MOST_LINES - 1))];
            line.next = size;
            frames[depth - 1] += line.amount * frames[depth];
            done[depth - 1] += line.amount * done[depth];
            depth--;
            words.needSign(';');
        }
    }

    /** Does what a Script tells, frame by frame. */
    private static final class Teller {
        final Script script;
        Shot shot;
        int now;
        int tied;
        int rigged;
        final int[] steps = new int[Script.MOST_AIMS];
        final int[] before = new int[Script.MOST_AIMS];
        final int[] axes = new int[AXES];
        final int[] motorFrom = new int[AXES];
        final int[] motorGoal = new int[AXES];
        final int[] motorStart = new int[AXES];
        final int[] motorFrames = new int[AXES];
        final int[] motorEase = new int[AXES];

        Teller(Script script) {
            this.script = script;
        }

        Shot tell() {
            shot = bareShot();
            now = 0;
            tied = 0;
            rigged = 0;
            Arrays.fill(steps, 0);
            Arrays.fill(axes, 0);
            Arrays.fill(motorFrames, 0);
            tellLines(0, script.size, 0);
            return shot;
        }

        private Shot bareShot() {
            int tracks = 0;
            for (int i = 0; i < script.aims; i++) {
                tracks += isFirstAim(i) ? 1 : 0;
            }
            Shot bare = new Shot(script.frameCount(), tracks, Integer.bitCount(script.says));
            bare.cast = script.cast;
            bare.says = script.says;
            int track = 0;
            for (int i = 0; i < script.aims; i++) {
                if (isFirstAim(i)) {
                    swapIn(bare.trackOf, script.aimWho[i] * JOINTS + script.aimJoint[i], track);
                    track++;
                }
            }
            int voice = 0;
            for (int p = 0; p < PUPPETS; p++) {
                if (hasBit(script.says, p)) {
                    bare.voiceOf[p] = voice;
                    voice++;
                }
            }
            return bare;
        }

        private boolean isFirstAim(int aim) {
            for (int i = 0; i < aim && aim < Script.MOST_AIMS; i++) {
                if (script.aimWho[i] == script.aimWho[aim] && script.aimJoint[i] == script.aimJoint[aim]) {
                    return false;
                }
            }
            return true;
        }

        private void tellLines(int from, int to, int depth) {
            if (depth > Script.DEEPEST) {
                return;
            }
            int i = from;
            while (i >= 0 && i < to && i < script.lines.length) {
                Line line = script.lines[i];
                if (line.kind == Line.REPEAT) {
                    tellRepeat(i + 1, line, depth);
                } else {
                    tellLine(line);
                }
                i = Math.max(i + 1, line.next);
            }
        }

        private void tellRepeat(int from, Line line, int depth) {
            for (int time = 0; time < line.amount; time++) {
                tellLines(from, line.next, depth + 1);
            }
        }

        private void tellLine(Line line) {
            switch (line.kind) {
                case Line.HOLD:
                    for (int k = 0; k < line.amount; k++) {
                        takeFrame();
                    }
                    break;
                case Line.MOVE:
                    tellMove(line);
                    break;
                case Line.SAY:
                    tellSay(line);
                    break;
                case Line.TIE:
                    tied = withBit(tied, line.who, true);
                    break;
                case Line.FREE:
                    tied = withBit(tied, line.who, false);
                    break;
                case Line.RIG:
                    rigged = withBit(rigged, line.who, line.amount == 1);
                    break;
                default:
                    startMotor(line);
            }
        }

        private static int withBit(int bits, int n, boolean is) {
            return is ? bits | 1 << n : bits & ~(1 << n);
        }

        private void tellMove(Line line) {
            System.arraycopy(steps, 0, before, 0, before.length);
            for (int k = 1; k <= line.amount; k++) {
                for (int aim = line.from; aim < line.from + line.count && aim < Script.MOST_AIMS; aim++) {
                    int track = entry(shot.trackOf, script.aimWho[aim] * JOINTS + script.aimJoint[aim], NONE);
                    int was = entry(before, track, 0);
                    swapIn(steps, track, eased(was, script.aimStep[aim], k, line.amount, line.ease));
                }
                takeFrame();
            }
        }

        private void tellSay(Line line) {
            for (int i = 0; i < line.count; i++) {
                int letter = script.words.byteAt(line.from + i) - 'a' + 1;
                int frame = line.amount + 2 * i;
                shot.putLetter(frame, line.who, letter);
                shot.putLetter(frame + 1, line.who, letter);
            }
        }

        private void startMotor(Line line) {
            int axis = line.who;
            if (!within(axis, 0, AXES - 1)) {
                return;
            }
            motorFrom[axis] = axes[axis];
            motorGoal[axis] = line.goal;
            motorStart[axis] = now;
            motorFrames[axis] = line.amount;
            motorEase[axis] = line.ease;
        }

        private void takeFrame() {
            if (!shot.hasFrame(now)) {
                return;
            }
            for (int track = 0; track < shot.tracks; track++) {
                shot.putStep(now, track, entry(steps, track, 0));
            }
            for (int axis = 0; axis < AXES; axis++) {
                int k = now - motorStart[axis] + 1;
                if (within(k, 1, motorFrames[axis])) {
                    axes[axis] = eased(motorFrom[axis], motorGoal[axis], k, motorFrames[axis], motorEase[axis]);
                }
                shot.putAxis(now, axis, axes[axis]);
            }
            shot.tied[now] = tied;
            shot.rigged[now] = rigged;
            now++;
        }

        /** What goes from one value to another is here in the k-th of n frames. */
        private static int eased(int from, int to, int k, int n, int ease) {
            long share = k;
            long whole = n;
            if (ease != Script.EVEN) {
                whole = (long) n * n;
                share = ease == Script.SLOW ? (long) k * k
                        : ease == Script.SOFT ? 2L * n * k - (long) k * k
                        : 2 * k <= n ? 2L * k * k
                        : whole - 2L * (n - k) * (n - k);
            }
            return whole < 1 ? to : from + (int) Math.floorDiv((to - from) * share, whole);
        }
    }

    /** Seeks BEST; keeps the last answer as long as what it came from is the same. */
    private static final class Planner {
        static final int MOST = 5;

        final Studio studio;
        int size;
        final int[] numbers = new int[MOST];
        final int[] stages = new int[MOST];
        final int[] dresses = new int[MOST];
        final int[] spans = new int[MOST * UNITS];
        final int[] leastSpans = new int[MOST];
        /** Bits for those that clash with each. */
        final int[] clashes = new int[MOST];
        boolean fresh;
        /** Bits for those that are placed, and which was the last of them. */
        int used;
        int last;
        int lastUnit;
        final int[] ends = new int[MOST];
        final int[] unitEnds = new int[UNITS];
        final int[] unitStages = new int[UNITS];
        final int[] way = new int[4 * MOST];
        final int[] bestWay = new int[4 * MOST];
        int bestTop;
        int bestSum;

        Planner(Studio studio) {
            this.studio = studio;
        }

        int toldOf(int k, int what) {
            return k >= 0 && k < size ? entry(bestWay, 4 * k + what, NONE) : NONE;
        }

        void seek(int bits) {
            fresh = false;
            gather(bits);
            if (!fresh) {
                return;
            }
            used = 0;
            last = NONE;
            lastUnit = NONE;
            Arrays.fill(unitEnds, 0);
            Arrays.fill(unitStages, NONE);
            bestTop = NEVER;
            bestSum = NEVER;
            extendWay(0, 0, 0);
        }

        private void gather(int bits) {
            int n = 0;
            for (int s = 0; s < SHOTS; s++) {
                if (hasBit(bits, s) && n < MOST) {
                    note(numbers, n, s);
                    n++;
                }
            }
            fresh |= n != size;
            size = n;
            for (int i = 0; i < size; i++) {
                gatherShot(i);
            }
        }

        private void gatherShot(int i) {
            Shot shot = studio.shotAt(entry(numbers, i, NONE));
            if (shot == null) {
                return;
            }
            note(stages, i, shot.stage);
            note(dresses, i, studio.dressOf(shot.stage));
            int least = NEVER;
            for (int unit = 0; unit < UNITS; unit++) {
                int span = studio.spanOf(shot, unit);
                note(spans, i * UNITS + unit, span);
                least = Math.min(least, span);
            }
            note(leastSpans, i, least);
            int bits = 0;
            for (int j = 0; j < size; j++) {
                Shot other = studio.shotAt(entry(numbers, j, NONE));
                bits |= other != null && studio.collide(shot, other) ? 1 << j : 0;
            }
            note(clashes, i, bits);
        }

        private void note(int[] row, int at, int value) {
            fresh |= swapIn(row, at, value) != value;
        }

        private void extendWay(int depth, int top, int sum) {
            if (depth >= size) {
                keepBetter(top, sum);
                return;
            }
            if (depth >= MOST || isHopeless(top, sum)) {
                return;
            }
            for (int i = 0; i < size; i++) {
                for (int unit = 0; unit < UNITS && !hasBit(used, i); unit++) {
                    if (!isEcho(i, unit)) {
                        place(depth, i, unit, top, sum);
                    }
                }
            }
        }

        /** Whether a way that comes first, and so is tried anyhow, has the same ENDS as all that go on so. */
        private boolean isEcho(int i, int unit) {
            for (int other = 0; other < unit; other++) {
                if (unitEnds[other] == unitEnds[unit] && unitStages[other] == unitStages[unit]
                        && studio.rateOf(other) == studio.rateOf(unit)) {
                    return true;
                }
            }
            return last > i && lastUnit != unit && !hasBit(clashes[i], last);
        }

        private void place(int depth, int i, int unit, int top, int sum) {
            int unitEnd = unitEnds[unit];
            int unitStage = unitStages[unit];
            int ahead = last;
            int unitAhead = lastUnit;
            int start = unitEnd + (unitStage == stages[i] ? 0 : dresses[i]);
            int begin = Math.max(start, clashEnd(i));
            int end = begin + spans[i * UNITS + unit];
            way[4 * depth] = numbers[i];
            way[4 * depth + 1] = unit;
            way[4 * depth + 2] = begin;
            way[4 * depth + 3] = end;
            used |= 1 << i;
            ends[i] = end;
            unitEnds[unit] = end;
            unitStages[unit] = stages[i];
            last = i;
            lastUnit = unit;
            extendWay(depth + 1, Math.max(top, end), sum + end);
            last = ahead;
            lastUnit = unitAhead;
            used &= ~(1 << i);
            unitEnds[unit] = unitEnd;
            unitStages[unit] = unitStage;
        }

        /** The last END of those placed that clash with one. */
        private int clashEnd(int i) {
            int placed = used & clashes[i];
            int end = 0;
            for (int j = 0; j < size && j < MOST; j++) {
                if (hasBit(placed, j)) {
                    end = Math.max(end, ends[j]);
                }
            }
            return end;
        }

        private void keepBetter(int top, int sum) {
            if (top < bestTop || top == bestTop && sum < bestSum) {
                bestTop = top;
                bestSum = sum;
                System.arraycopy(way, 0, bestWay, 0, way.length);
            }
        }

        /** Whether the soonest ENDS that those left can have make no better way. */
        private boolean isHopeless(int top, int sum) {
            int leastTop = top;
            int leastSum = sum;
            int left = 0;
            for (int i = 0; i < size; i++) {
                if (!hasBit(used, i)) {
                    int end = soonestEnd(i);
                    leastTop = Math.max(leastTop, end);
                    leastSum += end;
                    left |= 1 << i;
                }
            }
            return isNoBetter(leastTop, leastSum) || allClash(left) && isHopelessInLine(left, top, sum);
        }

        private boolean isNoBetter(int top, int sum) {
            return top > bestTop || top == bestTop && sum >= bestSum;
        }

        private boolean allClash(int left) {
            for (int i = 0; i < size; i++) {
                if (hasBit(left, i) && (clashes[i] & left) != left) {
                    return false;
                }
            }
            return true;
        }

        /** As isHopeless, of those that all clash, and so can only go one behind another: the shortest first. */
        private boolean isHopelessInLine(int left, int top, int sum) {
            int end = NEVER;
            for (int i = 0; i < size; i++) {
                if (hasBit(left, i)) {
                    end = Math.min(end, clashEnd(i));
                }
            }
            int still = left;
            int leastSum = sum;
            for (int turn = 0; turn < MOST && still != 0; turn++) {
                int shortest = shortestOf(still);
                end += leastSpans[shortest];
                leastSum += end;
                still &= ~(1 << shortest);
            }
            return isNoBetter(Math.max(top, end), leastSum);
        }

        private int shortestOf(int bits) {
            int shortest = 0;
            for (int i = 0; i < size; i++) {
                if (hasBit(bits, i) && (!hasBit(bits, shortest) || leastSpans[i] < leastSpans[shortest])) {
                    shortest = i;
                }
            }
            return shortest;
        }

        private int soonestEnd(int i) {
            int clash = clashEnd(i);
            int soonest = NEVER;
            for (int unit = 0; unit < UNITS; unit++) {
                soonest = Math.min(soonest, Math.max(unitEnds[unit], clash) + spans[i * UNITS + unit]);
            }
            return soonest;
        }
    }

    /** The ROWS of a plan. */
    private static final class Plan {
        private static final int MOST = 12;

        final Studio studio;
        int rows;
        final int[] shots = new int[MOST];
        final int[] units = new int[MOST];
        final int[] begins = new int[MOST];

        Plan(Studio studio) {
            this.studio = studio;
        }

        int addRow(int shot, int unit, int begin) {
            if (rows >= MOST) {
                return -1;
            }
            shots[rows] = shot;
            units[rows] = unit;
            begins[rows] = begin;
            rows++;
            return rows;
        }

        /** Why a row errs, or 0. */
        int errorOf(int row) {
            Shot shot = shotIn(row);
            if (shot == null) {
                return 0;
            }
            for (int ahead = 0; ahead < row && ahead < MOST; ahead++) {
                if (shots[ahead] == shots[row]) {
                    return 1;
                }
            }
            if (begins[row] < soonest(row, shot)) {
                return 2;
            }
            return meetsClash(row, shot) ? 3 : 0;
        }

        private Shot shotIn(int row) {
            return studio.shotAt(entry(shots, row, NONE));
        }

        private int endOf(int row) {
            Shot shot = shotIn(row);
            return shot == null ? 0 : entry(begins, row, 0) + studio.spanOf(shot, entry(units, row, 0));
        }

        private int soonest(int row, Shot shot) {
            int dress = studio.dressOf(shot.stage);
            for (int ahead = row - 1; ahead >= 0; ahead--) {
                Shot other = shotIn(ahead);
                if (other != null && entry(units, ahead, NONE) == entry(units, row, NONE)) {
                    return endOf(ahead) + (other.stage == shot.stage ? 0 : dress);
                }
            }
            return dress;
        }

        private boolean meetsClash(int row, Shot shot) {
            for (int ahead = 0; ahead < row; ahead++) {
                Shot other = shotIn(ahead);
                boolean meets = entry(begins, ahead, 0) < endOf(row) && entry(begins, row, 0) < endOf(ahead);
                if (meets && other != null && studio.collide(shot, other)) {
                    return true;
                }
            }
            return false;
        }
    }

    /** DRIFTS in the order in which they were told, so that the last known one of a frame counts. */
    private static final class Drifts {
        static final int MOST = 80;

        int count;
        final int[] shots = new int[MOST];
        final int[] frames = new int[MOST];
        final int[] values = new int[MOST];
        final int[] halves = new int[MOST];

        int add(int shot, int frame, int value, int half) {
            if (count < MOST) {
                shots[count] = shot;
                frames[count] = frame;
                values[count] = value;
                halves[count] = half;
                count++;
            }
            return count;
        }

        int mend(int shot, int frame, int known) {
            int left = NONE;
            int right = NONE;
            for (int i = 0; i < count && i < MOST; i++) {
                if (shots[i] != shot || halves[i] > known) {
                    continue;
                }
                if (frames[i] <= frame && (left == NONE || frames[i] >= frames[left])) {
                    left = i;
                }
                if (frames[i] >= frame && (right == NONE || frames[i] <= frames[right])) {
                    right = i;
                }
            }
            if (left == NONE) {
                return entry(values, right, 0);
            }
            return right == NONE ? values[left] : between(left, right, frame);
        }

        private int between(int left, int right, int frame) {
            int width = frames[right] - frames[left];
            if (width <= 0) {
                return values[right];
            }
            int rise = (values[right] - values[left]) * (frame - frames[left]);
            return values[left] + Math.floorDiv(rise, width);
        }
    }

    /** The FLOOR: what is ON, QUEUES, SETS and ANIMATORS; one that is not real only foretells. */
    private static final class Floor {
        static final int LONGEST = 10;
        private static final int ANIMATORS = 6;
        private static final int MOST_STANDING = 3;
        static final int FORESIGHT = 2000;

        final Studio studio;
        final boolean real;
        int half;
        final int[] taken = new int[SHOTS];
        final int[] on = new int[UNITS];
        final int[] queues = new int[UNITS * LONGEST];
        final int[] queued = new int[UNITS];
        /** 1 for each SHOT that is in a QUEUE, or ON. */
        final int[] engaged = new int[SHOTS];
        final int[] dressing = new int[UNITS];
        final int[] dressed = new int[UNITS];
        final int[] standing = new int[SETS];
        final int[] stations = new int[UNITS];
        int animators;
        final int[] limits = new int[ANIMATORS];
        final int[] worked = new int[ANIMATORS];
        int week;
        boolean stirred;
        /** How many HALVES nothing stirred. */
        int idle;

        Floor(Studio studio, boolean real) {
            this.studio = studio;
            this.real = real;
            Arrays.fill(on, NONE);
            Arrays.fill(dressing, NONE);
            Arrays.fill(standing, NONE);
            Arrays.fill(stations, NONE);
        }

        void copyFrom(Floor other) {
            half = other.half;
            System.arraycopy(other.taken, 0, taken, 0, taken.length);
            System.arraycopy(other.on, 0, on, 0, on.length);
            System.arraycopy(other.queues, 0, queues, 0, queues.length);
            System.arraycopy(other.queued, 0, queued, 0, queued.length);
            System.arraycopy(other.engaged, 0, engaged, 0, engaged.length);
            System.arraycopy(other.dressing, 0, dressing, 0, dressing.length);
            System.arraycopy(other.dressed, 0, dressed, 0, dressed.length);
            System.arraycopy(other.standing, 0, standing, 0, standing.length);
            System.arraycopy(other.stations, 0, stations, 0, stations.length);
            animators = other.animators;
            System.arraycopy(other.limits, 0, limits, 0, limits.length);
            System.arraycopy(other.worked, 0, worked, 0, worked.length);
            week = other.week;
            idle = 0;
        }

        int takenOf(int shot) {
            return entry(taken, shot, 0);
        }

        int onIn(int unit) {
            return entry(on, unit, NONE);
        }

        int queuedIn(int unit) {
            return entry(queued, unit, 0);
        }

        int firstIn(int unit) {
            return queuedIn(unit) > 0 ? queuedShot(unit, 0) : NONE;
        }

        int standsIn(int stage) {
            return entry(standing, stage, NONE);
        }

        /** Only of the SET that the SHOT which is ON has now. */
        int dressedIn(int unit) {
            Shot shot = studio.shotAt(onIn(unit));
            return shot != null && entry(dressing, unit, NONE) == shot.stage ? entry(dressed, unit, NONE) : NONE;
        }

        int addAnimator(int halves) {
            int number = animators;
            if (number >= ANIMATORS) {
                return -1;
            }
            limits[number] = halves;
            animators++;
            return number;
        }

        int workedBy(int animator) {
            turnWeek();
            return entry(worked, animator, 0);
        }

        boolean isEngaged(int shot) {
            return entry(engaged, shot, 0) != 0;
        }

        int enqueue(int unit, int shot) {
            int length = queuedIn(unit);
            if (length < LONGEST) {
                putQueued(unit, length, shot);
                swapIn(queued, unit, length + 1);
                swapIn(engaged, shot, 1);
            }
            return queuedIn(unit);
        }

        private int queuedShot(int unit, int i) {
            return within(i, 0, LONGEST - 1) ? entry(queues, unit * LONGEST + i, NONE) : NONE;
        }

        private void putQueued(int unit, int i, int shot) {
            if (within(i, 0, LONGEST - 1)) {
                swapIn(queues, unit * LONGEST + i, shot);
            }
        }

        void take(int shot, int frames) {
            int from = takenOf(shot);
            swapIn(taken, shot, from + frames);
            Shot it = studio.shotAt(shot);
            for (int frame = from; real && it != null && frame < from + frames; frame++) {
                swapIn(it.halves, frame, half);
            }
        }

        private boolean isAllShot(int shot) {
            Shot it = studio.shotAt(shot);
            return it == null || takenOf(shot) >= it.frames;
        }

        private void turnWeek() {
            int now = half / WEEK;
            if (now != week) {
                week = now;
                Arrays.fill(worked, 0);
            }
        }

        /** One HALF. */
        void pass() {
            stirred = false;
            turnWeek();
            for (int unit = 0; unit < UNITS; unit++) {
                attend(unit);
            }
            half++;
            idle = stirred ? 0 : idle + 1;
        }

        /**
         * Whether nothing will ever be done any more, unless something is told: only a new WEEK wakes a FLOOR
         * that didn't stir, and one began since it stirred last.
         */
        boolean isAsleep() {
            return idle > WEEK;
        }

        boolean isDone() {
            for (int unit = 0; unit < UNITS; unit++) {
                if (on[unit] != NONE || queued[unit] > 0) {
                    return false;
                }
            }
            return true;
        }

        private void attend(int unit) {
            if (on[unit] == NONE) {
                dropAllShot(unit);
                beginFirst(unit);
            }
            Shot shot = studio.shotAt(on[unit]);
            if (shot == null) {
                return;
            }
            if (dressing[unit] != shot.stage) {
                stopDressing(unit);
                if (standsIn(shot.stage) != unit && !startDressing(unit, shot.stage)) {
                    return;
                }
            }
            if (dressing[unit] == shot.stage && goOnDressing(unit, shot.stage)) {
                return;
            }
            if (standsIn(shot.stage) == unit) {
                workOn(unit, shot);
            }
        }

        private void dropAllShot(int unit) {
            int kept = 0;
            for (int i = 0; i < queued[unit]; i++) {
                int shot = queuedShot(unit, i);
                if (isAllShot(shot)) {
                    swapIn(engaged, shot, 0);
                } else {
                    putQueued(unit, kept, shot);
                    kept++;
                }
            }
            stirred |= kept != queued[unit];
            queued[unit] = kept;
        }

        private void beginFirst(int unit) {
            for (int i = 0; i < queued[unit]; i++) {
                int shot = queuedShot(unit, i);
                if (mayBegin(unit, shot)) {
                    on[unit] = shot;
                    removeQueued(unit, i);
                    stirred = true;
                    return;
                }
            }
        }

        private void removeQueued(int unit, int at) {
            for (int i = at + 1; i < queued[unit]; i++) {
                putQueued(unit, i - 1, queuedShot(unit, i));
            }
            queued[unit]--;
        }

        private boolean mayBegin(int unit, int shot) {
            Shot it = studio.shotAt(shot);
            if (it == null) {
                return false;
            }
            int where = standsIn(it.stage);
            if (where != NONE && where != unit) {
                return false;
            }
            for (int other = 0; other < UNITS; other++) {
                Shot holder = studio.shotAt(on[other]);
                if (holder != null && studio.collide(holder, it)) {
                    return false;
                }
            }
            return true;
        }

        private void stopDressing(int unit) {
            stirred |= dressing[unit] != NONE;
            dressing[unit] = NONE;
        }

        private boolean startDressing(int unit, int stage) {
            if (busySets() >= MOST_STANDING) {
                return false;
            }
            dressing[unit] = stage;
            dressed[unit] = 0;
            stirred = true;
            return true;
        }

        private int busySets() {
            int busy = 0;
            for (int stage = 0; stage < SETS; stage++) {
                boolean is = standing[stage] != NONE;
                for (int unit = 0; unit < UNITS; unit++) {
                    is |= dressing[unit] == stage;
                }
                busy += is ? 1 : 0;
            }
            return busy;
        }

        /** Whether that takes this HALF. */
        private boolean goOnDressing(int unit, int stage) {
            int dress = studio.dressOf(stage);
            boolean takes = dressed[unit] < dress;
            if (takes) {
                dressed[unit]++;
            }
            if (dressed[unit] >= dress) {
                swapIn(standing, stage, unit);
                dressing[unit] = NONE;
            }
            stirred = true;
            return takes;
        }

        private void workOn(int unit, Shot shot) {
            int number = on[unit];
            if (isAllShot(number)) {
                release(unit, shot);
                return;
            }
            int animator = stations[unit];
            if (!within(animator, 0, ANIMATORS - 1) || worked[animator] >= limits[animator]) {
                return;
            }
            worked[animator]++;
            int pace = Math.max(1, studio.rateOf(unit) / studio.headsOf(shot));
            take(number, Math.min(pace, shot.frames - takenOf(number)));
            stirred = true;
            if (isAllShot(number)) {
                release(unit, shot);
            }
        }

        private void release(int unit, Shot shot) {
            swapIn(engaged, on[unit], 0);
            on[unit] = NONE;
            dressing[unit] = NONE;
            stirred = true;
            if (!isWanted(shot.stage)) {
                swapIn(standing, shot.stage, NONE);
            }
        }

        private boolean isWanted(int stage) {
            for (int s = 0; s < SHOTS; s++) {
                Shot shot = studio.shotAt(s);
                if (shot != null && shot.stage == stage && isEngaged(s)) {
                    return true;
                }
            }
            return false;
        }
    }
}
