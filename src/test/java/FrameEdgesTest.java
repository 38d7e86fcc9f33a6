import java.io.IOException;

/** The edges of a SHOT's frames: moves, eases, cameras, says, BREACH, FALL, ALIKE, SWAPPED (promises 10 to 19). */
public final class FrameEdgesTest extends Edges {
    private static final String[] EASES = {"", "even", "slow", "soft", "both"};

    public static void main(String[] args) throws IOException {
        run(FrameEdgesTest.class);
    }

    private static void none(PuppetFilm x) {
    }

    /** Two SHOTS, of four frames and of one, of three PUPPETS; the third one has no JOINT, and is in neither. */
    private static void two(PuppetFilm x) {
        simple(x, -8, 8);
        simple(x, -8, 8);
        x.joint(1, 0, -8, 8, 5, 1);
        x.puppet();
        tell(x, "camera pan 40 in 4;move 0.0 4 in 4;say 0 ab at 1;");
        tell(x, "tie 1;rig 1 on;hold 1;camera tilt 7 in 1;");
    }

    /** The STEPS of a JOINT in the frames of a SHOT from 0 on. */
    private static void steps(int shot, int puppet, int joint, int... due) {
        are(due, (x, frame) -> x.step(shot, frame, puppet, joint));
    }

    private static void axis(int shot, int axis, int... due) {
        are(due, (x, frame) -> x.camera(shot, frame, axis));
    }

    private static void mouths(int shot, int puppet, int... due) {
        are(due, (x, frame) -> x.mouth(shot, frame, puppet));
    }

    /** Who is TIED and RIGGED alone. */
    private static void bonds(int shot, int puppet, int... due) {
        are(due, (x, frame) -> x.state(shot, frame, puppet) & 3);
    }

    // No such SHOT, frame, PUPPET, JOINT, AXIS.

    @Says("NoSuchElementException: no such SHOT (so below)")
    static void p10_noSuchShot() {
        int[] values = {2, 11, 12, -1, LEAST, MOST};
        refusesAll(values, NO_SUCH, FrameEdgesTest::two, (x, s) -> x.told(s, 0));
        refusesAll(values, NO_SUCH, FrameEdgesTest::two, (x, s) -> x.told(s, 6));
        refusesAll(values, NO_SUCH, FrameEdgesTest::two, (x, s) -> x.step(s, 0, 0, 0));
        refusesAll(values, NO_SUCH, FrameEdgesTest::two, (x, s) -> x.mouth(s, 0, 0));
        refusesAll(values, NO_SUCH, FrameEdgesTest::two, (x, s) -> x.camera(s, 0, 0));
        refusesAll(values, NO_SUCH, FrameEdgesTest::two, (x, s) -> x.state(s, 0, 0));
        refusesAll(values, NO_SUCH, FrameEdgesTest::two, (x, s) -> x.lean(s, 0, 0));
        refusesAll(values, NO_SUCH, FrameEdgesTest::two, (x, s) -> x.breach(s, 0));
        refusesAll(values, NO_SUCH, FrameEdgesTest::two, (x, s) -> x.fall(s, 0));
        refusesAll(values, NO_SUCH, FrameEdgesTest::two, (x, s) -> x.alike(s, 0, 0) ? 1 : 0);
        refusesAll(values, NO_SUCH, FrameEdgesTest::two, (x, s) -> x.swap(s, 0, 1));
    }

    @Says("NoSuchElementException: no such SHOT (so below)")
    static void p10_noShotAtAllWhateverElseIsWrong() {
        refuses(NO_SUCH, FrameEdgesTest::none, x -> x.told(0, 9));
        refuses(NO_SUCH, FrameEdgesTest::none, x -> x.step(0, 9, 9, 9));
        refuses(NO_SUCH, FrameEdgesTest::none, x -> x.mouth(0, 9, 9));
        refuses(NO_SUCH, FrameEdgesTest::none, x -> x.camera(0, 9, 9));
        refuses(NO_SUCH, FrameEdgesTest::none, x -> x.state(0, 9, 9));
        refuses(NO_SUCH, FrameEdgesTest::none, x -> x.lean(0, 9, 9));
        refuses(NO_SUCH, FrameEdgesTest::none, x -> x.breach(0, 9));
        refuses(NO_SUCH, FrameEdgesTest::none, x -> x.fall(0, 9));
        refuses(NO_SUCH, FrameEdgesTest::none, x -> x.alike(0, 9, 9) ? 1 : 0);
        refuses(NO_SUCH, FrameEdgesTest::none, x -> x.swap(0, 9, 9));
    }

    @Says("5 how many are DIRTY. NoSuchElementException: no such SHOT (so below); IllegalArgumentException: another what.")
    static void p10_toldHasSixWhats() {
        bounds(0, 5, ARGUMENT, FrameEdgesTest::two, (x, what) -> x.told(0, what));
        two(x);
        are(new int[] {4, 1, 1, 0, 0, 0}, (x, what) -> x.told(0, what));
        are(new int[] {1, 2, 0, 0, 0, 1}, (x, what) -> x.told(1, what));
    }

    @Says("Of a SHOT: 0 frames, 1 CAST as bits, 2 PUPPETS that say something, as bits, 3 its SET, 4 how many frames are shot")
    static void p10_toldOfAFullShot() {
        StringBuilder text = new StringBuilder();
        for (int p = 0; p < 8; p++) {
            x.puppet();
            text.append("say ").append(p).append(" a at ").append(50 * p).append(";rig ").append(p).append(" on;");
        }
        is(0, tell(text + "hold 200;hold 200;"));
        x.set(2, 0, 7);
        x.shoot(0, 400);
        are(new int[] {400, 255, 255, 7, 400, 400}, (x, what) -> x.told(0, what));
    }

    @Says("STEP of a PUPPET's JOINT in a frame; OFF: no such frame, PUPPET, JOINT.")
    static void p11_noSuchFramePuppetJoint() {
        for (int v : new int[] {4, -1, LEAST, MOST, 400, 1 << 30}) {
            answersOnly(OFF, FrameEdgesTest::two, x -> x.step(0, v, 0, 0));
        }
        for (int v : new int[] {3, 8, -1, LEAST, MOST}) {
            answersOnly(OFF, FrameEdgesTest::two, x -> x.step(0, 3, v, 0));
        }
        for (int v : new int[] {1, 12, -1, LEAST, MOST}) {
            answersOnly(OFF, FrameEdgesTest::two, x -> x.step(0, 3, 0, v));
        }
        two(x);
        is(4, x.step(0, 3, 0, 0));
        is(0, x.step(0, 3, 1, 1));
        is(OFF, x.step(0, 3, 1, 2));
        is(OFF, x.step(0, 3, 2, 0));
        is(OFF, x.step(1, 1, 0, 0));
    }

    @Says("MOUTH of a PUPPET in a frame; NONE: no such frame, PUPPET.")
    static void p12_noSuchFramePuppet() {
        for (int v : new int[] {4, -1, LEAST, MOST, 400}) {
            answersOnly(NONE, FrameEdgesTest::two, x -> x.mouth(0, v, 0));
        }
        for (int v : new int[] {3, 8, -1, LEAST, MOST}) {
            answersOnly(NONE, FrameEdgesTest::two, x -> x.mouth(0, 3, v));
        }
        two(x);
        mouths(0, 0, 0, 1, 1, 2, NONE);
        mouths(0, 2, 0, 0, 0, 0, NONE);
        mouths(1, 0, 0, NONE);
    }

    @Says("An AXIS in a frame; NONE: no such frame, AXIS.")
    static void p13_noSuchFrameAxis() {
        for (int v : new int[] {4, -1, LEAST, MOST, 400}) {
            answersOnly(NONE, FrameEdgesTest::two, x -> x.camera(0, v, 0));
        }
        for (int v : new int[] {3, -1, LEAST, MOST}) {
            answersOnly(NONE, FrameEdgesTest::two, x -> x.camera(0, 3, v));
        }
        two(x);
        axis(0, 0, 10, 20, 30, 40, NONE);
        axis(0, 2, 0, 0, 0, 0, NONE);
        // A camera behind the last frame has none.
        axis(1, 1, 0, NONE);
    }

    @Says("Of a PUPPET in a frame: 1 TIED, 2 RIGGED, 4 it STANDS, together; NONE: no such frame, PUPPET.")
    static void p14_noSuchFramePuppet() {
        for (int v : new int[] {4, -1, LEAST, MOST, 400}) {
            answersOnly(NONE, FrameEdgesTest::two, x -> x.state(0, v, 0));
        }
        for (int v : new int[] {3, 8, -1, LEAST, MOST}) {
            answersOnly(NONE, FrameEdgesTest::two, x -> x.state(0, 3, v));
        }
        two(x);
        is(0, x.state(0, 0, 0));
        is(4, x.state(0, 0, 1));
        is(7, x.state(1, 0, 1));
    }

    @Says("Of a PUPPET in a frame: 1 TIED, 2 RIGGED, 4 it STANDS, together")
    static void p14_eachSumFrom0To7() {
        simple(-8, 8);
        is(0, tell("move 0.0 4 in 1;tie 0;hold 1;rig 0 on;hold 1;free 0;hold 1;move 0.0 0 in 1;tie 0;hold 1;rig 0 off;hold 1;"
                + "free 0;hold 1;"));
        are(new int[] {0, 1, 3, 2, 6, 7, 5, 4, NONE}, (x, frame) -> x.state(0, frame, 0));
    }

    @Says("LEAN of a PUPPET in a frame; OFF: no such frame, PUPPET.")
    static void p15_noSuchFramePuppet() {
        for (int v : new int[] {4, -1, LEAST, MOST, 400}) {
            answersOnly(OFF, FrameEdgesTest::two, x -> x.lean(0, v, 0));
        }
        for (int v : new int[] {3, 8, -1, LEAST, MOST}) {
            answersOnly(OFF, FrameEdgesTest::two, x -> x.lean(0, 3, v));
        }
        two(x);
        is(10000, x.lean(0, 3, 0));
        is(0, x.lean(0, 3, 1));
    }

    @Says({"IllegalArgumentException: another what.", "0 the frame, 1 the PUPPET, 2 the JOINT; NONE: none."})
    static void p16_breachHasThreeWhats() {
        bounds(0, 2, ARGUMENT, FrameEdgesTest::two, (x, what) -> x.breach(0, what));
        bounds(0, 2, ARGUMENT, FrameEdgesTest::two, (x, what) -> x.breach(1, what));
    }

    @Says("FALL: 0 the frame, 1 the PUPPET; NONE: none. IllegalArgumentException: another what.")
    static void p17_fallHasTwoWhats() {
        bounds(0, 1, ARGUMENT, FrameEdgesTest::two, (x, what) -> x.fall(0, what));
        bounds(0, 1, ARGUMENT, FrameEdgesTest::two, (x, what) -> x.fall(1, what));
    }

    @Says("Whether two frames are ALIKE. IndexOutOfBoundsException: no such frame (so below).")
    static void p18_noSuchFrame() {
        bounds(0, 3, INDEX, FrameEdgesTest::two, (x, frame) -> x.alike(0, frame, 0) ? 1 : 0);
        bounds(0, 3, INDEX, FrameEdgesTest::two, (x, frame) -> x.alike(0, 3, frame) ? 1 : 0);
        bounds(0, 0, INDEX, FrameEdgesTest::two, (x, frame) -> x.alike(1, frame, 0) ? 1 : 0);
        refuses(INDEX, FrameEdgesTest::two, x -> x.alike(0, 4, 4) ? 1 : 0);
    }

    @Says("IndexOutOfBoundsException: no such PUPPET.")
    static void p19_noSuchPuppet() {
        bounds(0, 2, INDEX, FrameEdgesTest::two, (x, puppet) -> x.swap(0, puppet, 0));
        bounds(0, 2, INDEX, FrameEdgesTest::two, (x, puppet) -> x.swap(0, 2, puppet));
        refuses(INDEX, FrameEdgesTest::two, x -> x.swap(1, 3, 3));
        refuses(INDEX, FrameEdgesTest::two, x -> x.swap(1, 8, 0));
    }

    // How frames come.

    @Says("FRAMES from 0 on: hold and move take N of them each, one S behind another, repeat its S as many times.")
    static void t2_framesOneSBehindAnother() {
        simple(-32, 32);
        is(0, tell("hold 1;move 0.0 1 in 1;hold 2;repeat 2[move 0.0 5 in 1;hold 1;move 0.0 6 in 1;];hold 1;"));
        steps(0, 0, 0, 0, 1, 1, 1, 5, 5, 6, 5, 5, 6, 6, OFF);
    }

    @Says("FRAMES from 0 on: hold and move take N of them each, one S behind another, repeat its S as many times.")
    static void t2_theLastOf400Frames() {
        simple(-32, 32);
        is(0, tell("move 0.0 32 in 200;move 0.0 -32 in 200;"));
        is(0, x.step(0, 0, 0, 0));
        is(32, x.step(0, 199, 0, 0));
        is(31, x.step(0, 200, 0, 0));
        is(-32, x.step(0, 399, 0, 0));
        is(OFF, x.step(0, 400, 0, 0));
        is(1, tell("repeat 20[hold 19;move 0.0 1 in 1;];"));
        is(1, x.step(1, 399, 0, 0));
        is(0, x.step(1, 18, 0, 0));
        is(1, x.step(1, 19, 0, 0));
    }

    @Says({"repeat its S as many times", "or a repeat in four others"})
    static void t2_framesOfFourRepeatsInOneAnother() {
        simple(-32, 32);
        is(0, tell(times(4, "repeat 2[") + "move 0.0 1 in 1;move 0.0 0 in 1;" + times(4, "];") + "move 0.0 5 in 1;"));
        is(33, x.told(0, 0));
        for (int f = 0; f < 32; f++) {
            is(1 - f % 2, x.step(0, f, 0, 0));
        }
        is(5, x.step(0, 32, 0, 0));
    }

    @Says("Ahead of the first one all STEPS, AXES and MOUTHS are 0, nobody is TIED or RIGGED.")
    static void t2_nothingIsLeftOfTheShotAhead() {
        simple(-32, 32);
        is(0, tell("tie 0;rig 0 on;move 0.0 9 in 1;say 0 abc at 0;camera pan 9 in 9;camera tilt 9 in 9;camera track 9 in 1;"
                + "hold 9;"));
        is(1, tell("hold 9;"));
        for (int f = 0; f < 9; f++) {
            is(0, x.step(1, f, 0, 0));
            is(0, x.mouth(1, f, 0));
            is(0, x.camera(1, f, f % 3));
            is(4, x.state(1, f, 0));
        }
        is(2, tell("move 0.0 8 in 8;camera pan 8 in 8;"));
        steps(2, 0, 0, 1, 2, 3, 4, 5, 6, 7, 8);
        axis(2, 0, 0, 0, 0, 0, 0, 0, 0, 0);
    }

    @Says("In the k-th of the N frames of a move (from 1 on) a STEP or AXIS that was a and goes to b")
    static void t2_aMoveOfOneFrameIsThereAtOnce() {
        simple(-32, 32);
        for (int e = 0; e < EASES.length; e++) {
            is(e, tell("move 0.0 32 in 1 " + EASES[e] + ";move 0.0 -32 in 1 " + EASES[e] + ";move 0.0 0 in 1 " + EASES[e]
                    + ";camera pan 9999 in 1 " + EASES[e] + ";hold 1;camera pan 0 in 1 " + EASES[e] + ";hold 1;"));
            steps(e, 0, 0, 32, -32, 0, 0, 0);
            axis(e, 0, 0, 0, 0, 9999, 0);
        }
    }

    @Says("is a and ((b - a) times SHARE), rounded down: SHARE: even k by N")
    static void t2_evenIsRoundedDownAlsoBelow0() {
        simple(-32, 32);
        is(0, tell("move 0.0 2 in 3;move 0.0 -2 in 3 even;move 0.0 -1 in 3;move 0.0 -2 in 3;"));
        // 2 and -4 thirds, -8 thirds, -12 thirds; -2 and 1 third ..; -1 and -1 third ..
        steps(0, 0, 0, 0, 1, 2, 0, -1, -2, -2, -2, -1, -2, -2, -2);
    }

    @Says("slow k k by N N")
    static void t2_slow() {
        simple(-32, 32);
        is(0, tell("move 0.0 16 in 4 slow;move 0.0 0 in 4 slow;move 0.0 -8 in 3 slow;"));
        steps(0, 0, 0, 1, 4, 9, 16, 15, 12, 7, 0, -1, -4, -8);
    }

    @Says("soft (2 N k - k k) by N N")
    static void t2_soft() {
        simple(-32, 32);
        is(0, tell("move 0.0 16 in 4 soft;move 0.0 0 in 4 soft;move 0.0 -8 in 3 soft;"));
        steps(0, 0, 0, 7, 12, 15, 16, 9, 4, 1, 0, -5, -8, -8);
    }

    @Says("both, as long as 2 k is N at most, 2 k k by N N, else (N N - 2 (N - k) (N - k)) by N N.")
    static void t2_bothTurnsInTheMiddle() {
        simple(-32, 32);
        // N even: the middle frame; N odd: the two at its sides.
        is(0, tell("move 0.0 16 in 4 both;move 0.0 0 in 4 both;"));
        steps(0, 0, 0, 2, 8, 14, 16, 14, 8, 2, 0);
        is(1, tell("move 0.0 25 in 5 both;move 0.0 0 in 5 both;"));
        steps(1, 0, 0, 2, 8, 17, 23, 25, 23, 17, 8, 2, 0);
        is(2, tell("move 0.0 9 in 3 both;move 0.0 13 in 2 both;"));
        steps(2, 0, 0, 2, 7, 9, 11, 13);
    }

    @Says("both, as long as 2 k is N at most, 2 k k by N N, else (N N - 2 (N - k) (N - k)) by N N.")
    static void t2_easesOfTheGreatestNumbers() {
        simple(-32, 32);
        is(0, tell("camera pan 9999 in 400 both;camera tilt 9999 in 400 slow;camera track 9999 in 400 soft;hold 200;hold 200;"));
        int[][] due = {{0, 0, 0, 49}, {1, 0, 0, 99}, {198, 4949, 2474, 7474}, {199, 4999, 2499, 7499}, {200, 5049, 2524, 7524},
            {397, 9998, 9899, 9998}, {398, 9998, 9949, 9998}, {399, 9999, 9999, 9999}};
        for (int[] d : due) {
            for (int axis = 0; axis < 3; axis++) {
                is(d[axis + 1], x.camera(0, d[0], axis));
            }
        }
        is(1, tell("camera pan 9999 in 1;hold 1;camera pan 0 in 399 both;hold 199;hold 200;"));
        // 9,999 - 9,999 times 2 by 159,201, and so on.
        is(9998, x.camera(1, 1, 0));
        is(0, x.camera(1, 399, 0));
        is(2, tell("move 0.0 32 in 200 both;move 0.0 -32 in 200 both;"));
        int[][] steps = {{0, 0}, {19, 0}, {98, 15}, {99, 16}, {100, 16}, {198, 31}, {199, 32}, {200, 31}, {298, 0}, {299, 0}, {398, -32}, {399, -32}};
        for (int[] d : steps) {
            is(d[1], x.step(2, d[0], 0, 0));
        }
    }

    @Says("FRAMES from 0 on: hold and move take N of them each, one S behind another, repeat its S as many times.")
    static void t2_eachMoveMovesItsOwnJointsAlone() {
        for (int p = 0; p < 8; p++) {
            x.puppet();
            for (int j = 0; j < 12; j++) {
                x.joint(p, NONE, -32, 32, 0, 0);
            }
        }
        is(0, tell("move 0.0 1,1.0 2,7.11 3,0.11 4 in 1;move 0.0 5 in 1;repeat 2[move 1.0 6 in 1;move 7.11 7 in 1;move 1.0 8 in 1;];"));
        steps(0, 0, 0, 1, 5, 5, 5, 5, 5, 5, 5);
        steps(0, 1, 0, 2, 2, 6, 6, 8, 6, 6, 8);
        steps(0, 7, 11, 3, 3, 3, 7, 7, 7, 7, 7);
        steps(0, 0, 11, 4, 4, 4, 4, 4, 4, 4, 4);
        steps(0, 7, 0, 0, 0, 0, 0, 0, 0, 0, 0);
        is(1, tell("move 0.0 1 in 1;repeat 2[move 1.0 1 in 1;move 0.0 3 in 1;];"));
        steps(1, 0, 0, 1, 1, 3, 3, 3);
        steps(1, 1, 0, 0, 1, 1, 1, 1);
    }

    @Says("(Of two A for one JOINT in one move the last counts.)")
    static void t2_ofTwoAForOneJointTheLastCounts() {
        simple(-32, 32);
        x.joint(0, NONE, -32, 32, 0, 0);
        is(0, tell("move 0.0 8,0.0 -8 in 2;"));
        steps(0, 0, 0, -4, -8);
        is(1, tell("move 0.0 1,0.1 3,0.0 2,0.1 -3,0.0 3 in 1;"));
        steps(1, 0, 0, 3);
        steps(1, 0, 1, -3);
        // In two moves each counts; that of one JOINT leaves the others.
        is(2, tell("move 0.0 8 in 1;move 0.1 8 in 1;move 0.0 -8 in 1;"));
        steps(2, 0, 0, 8, 8, -8);
        steps(2, 0, 1, 0, 8, 8);
    }

    @Says("camera: its frames are the N next ones of the SHOT, whatever they are")
    static void t2_cameraGoesOnOverAllThatComes() {
        simple(-32, 32);
        is(0, tell("hold 1;camera pan 6 in 6;hold 1;repeat 2[move 0.0 1 in 1;];tie 0;move 0.0 0 in 2;hold 1;hold 2;"));
        axis(0, 0, 0, 1, 2, 3, 4, 5, 6, 6, 6, NONE);
        // It ends behind the SHOT's last frame, or begins there.
        is(1, tell("hold 2;camera tilt 400 in 400;hold 2;camera track 9 in 1;"));
        axis(1, 1, 0, 0, 1, 2, NONE);
        axis(1, 2, 0, 0, 0, 0, NONE);
    }

    @Says("a later one for the AXIS begins where it is then, and that one is over")
    static void t2_aLaterCameraEndsTheOneAhead() {
        is(0, tell("camera pan 90 in 9;hold 3;camera pan 0 in 3;hold 6;"));
        axis(0, 0, 10, 20, 30, 20, 10, 0, 0, 0, 0);
        // With no frame between, the one ahead had none.
        is(1, tell("camera pan 90 in 9;camera pan 2 in 2;hold 4;"));
        axis(1, 0, 1, 2, 2, 2);
        // Just when the one ahead is at its end.
        is(2, tell("camera pan 4 in 2;hold 2;camera pan 0 in 4;hold 5;"));
        axis(2, 0, 2, 4, 3, 2, 1, 0, 0);
        // Another AXIS leaves it.
        is(3, tell("camera pan 4 in 4;hold 1;camera tilt 3 in 3;hold 3;"));
        axis(3, 0, 1, 2, 3, 4);
        axis(3, 1, 0, 1, 2, 3);
    }

    @Says("tie, free, rig: from the next frame on.")
    static void t2_tieFreeAndRigFromTheNextFrameOn() {
        x.puppet();
        is(0, tell("tie 0;hold 2;free 0;rig 0 on;hold 1;tie 0;rig 0 off;hold 1;free 0;tie 0;free 0;hold 1;tie 0;rig 0 on;"));
        bonds(0, 0, 1, 1, 2, 1, 0);
        // Again, or of one who isn't.
        is(1, tell("free 0;rig 0 off;hold 1;tie 0;tie 0;rig 0 on;rig 0 on;hold 1;free 0;rig 0 off;hold 1;"));
        bonds(1, 0, 0, 3, 0);
        is(2, tell("repeat 2[hold 1;tie 0;];hold 1;"));
        bonds(2, 0, 0, 1, 1);
    }

    @Says("say: from frame N of the SHOT on for each letter of the WORD two frames of its MOUTH")
    static void t2_sayTwoFramesForEachLetter() {
        x.puppet();
        is(0, tell("say 0 abc at 0;hold 8;"));
        mouths(0, 0, 1, 1, 2, 2, 3, 3, 0, 0, NONE);
        // From frame N of the SHOT, wherever it is told.
        is(1, tell("hold 8;say 0 b at 3;"));
        mouths(1, 0, 0, 0, 0, 2, 2, 0, 0, 0);
        is(2, tell("repeat 2[hold 2;say 0 c at 1;];"));
        mouths(2, 0, 0, 3, 3, 0);
    }

    @Says("say: from frame N of the SHOT on for each letter of the WORD two frames of its MOUTH")
    static void t2_sayBeyondTheLastFrame() {
        x.puppet();
        is(0, tell("say 0 abc at 3;hold 4;"));
        mouths(0, 0, 0, 0, 0, 1, NONE);
        is(1, tell("say 0 abc at 4;hold 4;"));
        mouths(1, 0, 0, 0, 0, 0, NONE);
        is(1, x.told(1, 2));
        is(2, tell("say 0 " + times(20, "z") + " at 400;say 0 i at 399;say 0 h at 398;hold 200;hold 200;"));
        is(0, x.mouth(2, 397, 0));
        is(8, x.mouth(2, 398, 0));
        is(8, x.mouth(2, 399, 0));
        is(NONE, x.mouth(2, 400, 0));
        is(3, tell("say 0 h at 398;say 0 i at 399;say 0 abcdefghijklmnopqrst at 0;hold 200;hold 200;"));
        is(8, x.mouth(3, 398, 0));
        is(9, x.mouth(3, 399, 0));
        is(2, x.mouth(3, 39, 0));
        is(0, x.mouth(3, 40, 0));
    }

    @Says("of two for one PUPPET and frame the later one (as they come) counts")
    static void t2_ofTwoSaysTheLaterOneCounts() {
        x.puppet();
        x.puppet();
        is(0, tell("say 0 aaa at 1;say 0 b at 2;say 1 c at 2;hold 8;"));
        mouths(0, 0, 0, 1, 2, 2, 1, 1, 1, 0);
        mouths(0, 1, 0, 0, 3, 3, 0, 0, 0, 0);
        // As they come: in the second time the first say comes again.
        is(1, tell("repeat 2[say 0 a at 0;say 0 b at 1;];hold 4;"));
        mouths(1, 0, 1, 2, 2, 0);
        is(2, tell("repeat 2[say 0 a at 1;repeat 1[say 0 b at 0;];];hold 4;"));
        mouths(2, 0, 2, 2, 1, 0);
    }

    // CAST, BREACH, FALL, ALIKE.

    @Says("CAST: PUPPETS that a SHOT's text names.")
    static void t2_castIsWhomTheTextNames() {
        for (int p = 0; p < 8; p++) {
            simple(-1, 1);
        }
        String[] texts = {"hold 1;", "move 0.0 0 in 1;", "say 1 a at 400;hold 1;", "tie 2;hold 1;", "free 3;hold 1;",
            "rig 4 on;hold 1;", "rig 5 off;hold 1;", "hold 1;tie 6;", "move 0.0 0,7.0 0 in 1;"};
        int[] cast = {0, 1, 2, 4, 8, 16, 32, 64, 129};
        for (int s = 0; s < texts.length; s++) {
            is(s, tell(texts[s]));
            is(cast[s], x.told(s, 1));
            is(s == 2 ? 2 : 0, x.told(s, 2));
        }
    }

    @Says("BREACH: the first frame (then PUPPET, JOINT) with a STEP below LOW or above HIGH.")
    static void t2_breachBeyondLowAndHighThemselves() {
        one();
        int[] steps = {-6, -5, 0, 7, 8};
        for (int s = 0; s < steps.length; s++) {
            is(s, tell("move 0.0 " + steps[s] + " in 1;"));
            int due = steps[s] < -5 || steps[s] > 7 ? 0 : NONE;
            is(due, x.breach(s, 0));
            is(due, x.breach(s, 1));
            is(due, x.breach(s, 2));
        }
    }

    private static void one() {
        x.puppet();
        x.joint(0, NONE, -5, 7, 0, 0);
    }

    @Says("BREACH: the first frame (then PUPPET, JOINT) with a STEP below LOW or above HIGH.")
    static void t2_breachFirstFrameThenPuppetThenJoint() {
        for (int p = 0; p < 8; p++) {
            x.puppet();
            for (int j = 0; j < (p == 7 ? 12 : 2); j++) {
                x.joint(p, NONE, -1, 1, 0, 0);
            }
        }
        is(0, tell("hold 200;hold 199;move 7.11 2 in 1;"));
        are(new int[] {399, 7, 11}, (x, what) -> x.breach(0, what));
        is(1, tell("move 7.11 2 in 1;move 3.1 2 in 1;move 3.0 2 in 1;"));
        are(new int[] {0, 7, 11}, (x, what) -> x.breach(1, what));
        is(2, tell("hold 1;move 7.11 2,3.1 -2,3.0 -2,6.0 2 in 1;"));
        are(new int[] {1, 3, 0}, (x, what) -> x.breach(2, what));
        is(3, tell("move 0.1 2,7.0 2 in 2;"));
        are(new int[] {1, 0, 1}, (x, what) -> x.breach(3, what));
    }

    @Says("FALL: the first frame (then PUPPET of the CAST) in which one neither STANDS nor is TIED.")
    static void t2_fallOfTheCastAlone() {
        for (int p = 0; p < 8; p++) {
            simple(-8, 8);
            x.feet(p, 1, 1);
        }
        // Nobody STANDS, but nobody is CAST.
        is(0, tell("hold 3;"));
        is(NONE, x.fall(0, 0));
        is(NONE, x.fall(0, 1));
        is(1, tell("hold 3;tie 7;"));
        are(new int[] {0, 7}, (x, what) -> x.fall(1, what));
        is(2, tell("tie 7;hold 3;"));
        is(NONE, x.fall(2, 0));
        is(3, tell("tie 7;hold 200;hold 199;free 7;hold 1;"));
        are(new int[] {399, 7}, (x, what) -> x.fall(3, what));
        is(4, tell("tie 7;tie 5;tie 6;hold 2;free 7;free 6;hold 1;free 5;hold 1;"));
        are(new int[] {2, 6}, (x, what) -> x.fall(4, what));
        is(5, tell("tie 7;hold 2;free 7;"));
        is(NONE, x.fall(5, 0));
        is(6, tell("hold 1;free 7;free 0;"));
        are(new int[] {0, 0}, (x, what) -> x.fall(6, what));
        // FEET as they are now.
        x.feet(6, 0, 0);
        are(new int[] {2, 7}, (x, what) -> x.fall(4, what));
        x.feet(7, -1, 0);
        are(new int[] {3, 5}, (x, what) -> x.fall(4, what));
        x.feet(5, 0, 1);
        is(NONE, x.fall(4, 0));
    }

    @Says("Two frames are ALIKE, if STEPS, MOUTHS, AXES, who is TIED and who is RIGGED are so.")
    static void t2_alikeInAllFive() {
        for (int p = 0; p < 8; p++) {
            simple(-8, 8);
        }
        String[] changes = {"move 7.0 1 in 1;", "say 7 a at 1;hold 1;", "camera track 1 in 1;hold 1;", "tie 7;hold 1;", "rig 7 on;hold 1;"};
        String[] back = {"move 7.0 0 in 1;", "hold 1;", "hold 1;", "free 7;hold 1;", "rig 7 off;hold 1;"};
        for (int s = 0; s < changes.length; s++) {
            is(s, tell("hold 1;" + changes[s] + (s == 2 ? "camera track 0 in 1;" : "") + back[s] + "hold 1;"));
            is(true, x.alike(s, 0, 0));
            is(true, x.alike(s, 1, 1));
            is(false, x.alike(s, 0, 1));
            is(false, x.alike(s, 1, 0));
            is(s != 1, x.alike(s, 0, 2));
            is(true, x.alike(s, 0, 3));
        }
        is(5, tell("hold 200;hold 200;"));
        is(true, x.alike(5, 0, 399));
    }

    @Says("Two frames are ALIKE, if STEPS, MOUTHS, AXES, who is TIED and who is RIGGED are so.")
    static void t2_alikeByMouthsNotByLetters() {
        x.puppet();
        is(0, tell("say 0 ajb at 0;hold 7;"));
        is(true, x.alike(0, 0, 2));
        is(false, x.alike(0, 0, 4));
        is(false, x.alike(0, 0, 6));
        x.sound(9, 2);
        is(false, x.alike(0, 0, 2));
        is(true, x.alike(0, 2, 4));
        // PUPPETS that STAND or not, that are PAINTED or shot, are nothing of it.
        x.paint(0, 0, 0, true);
        x.shoot(0, 1);
        is(true, x.alike(0, 0, 1));
    }

    // SWAPPED.

    /** PUPPETS alike in all (0, 1), with a narrow HIGH (2), a narrow LOW (3), one JOINT more (4), narrow FEET (5). */
    private static void troupe(PuppetFilm x) {
        int[][] due = {{-8, 8}, {-8, 8}, {-8, 3}, {-3, 8}, {-8, 8}, {-8, 8}};
        for (int p = 0; p < due.length; p++) {
            simple(x, due[p][0], due[p][1]);
            x.joint(p, 0, -8, 8, 1, 0);
            x.feet(p, p == 5 ? -9 : -10, p == 5 ? 9 : 10);
        }
        x.joint(4, 0, 0, 0, 0, 0);
        tell(x, "move 0.0 4 in 2;move 0.0 -4 in 2;say 0 ab at 0;rig 0 on;hold 1;");
        tell(x, "move 0.0 4 in 1;tie 1;hold 1;");
    }

    @Says("the first of these: -1 the first is not CAST; -2 the other one is")
    static void p19_theFirstIsNotCastTheOtherOneIs() {
        answersOnly(-1, FrameEdgesTest::troupe, x -> x.swap(0, 1, 2));
        answersOnly(-1, FrameEdgesTest::troupe, x -> x.swap(0, 1, 1));
        answersOnly(-1, FrameEdgesTest::troupe, x -> x.swap(0, 1, 0));
        answersOnly(-1, FrameEdgesTest::troupe, x -> x.swap(0, 2, 4));
        answersOnly(-2, FrameEdgesTest::troupe, x -> x.swap(0, 0, 0));
        answersOnly(-2, FrameEdgesTest::troupe, x -> x.swap(1, 0, 1));
        answersOnly(-2, FrameEdgesTest::troupe, x -> x.swap(1, 1, 0));
    }

    @Says("-3 they haven't as many JOINTS with the same PARENTS")
    static void p19_asManyJointsWithTheSameParents() {
        answersOnly(-3, FrameEdgesTest::troupe, x -> x.swap(0, 0, 4));
        Setup otherParent = x -> {
            troupe(x);
            x.joint(0, 1, 0, 0, 0, 0);
        };
        // 4 has three, too, but its third one hangs on the first.
        answersOnly(-3, otherParent, x -> x.swap(0, 0, 4));
        answersOnly(-3, otherParent, x -> x.swap(0, 0, 1));
        troupe(x);
        x.joint(0, 0, -32, 32, 100, 0);
        is(1, x.swap(0, 0, 4));
    }

    @Says("-3 they haven't as many JOINTS with the same PARENTS")
    static void p19_withoutJointsTheyAreAlike() {
        x.puppet();
        x.puppet();
        x.puppet();
        x.joint(2, NONE, 0, 0, 0, 0);
        is(0, tell("rig 0 on;hold 1;"));
        is(-3, x.swap(0, 0, 2));
        is(1, x.swap(0, 0, 1));
        is(2, x.told(0, 1));
        is(6, x.state(0, 0, 1));
    }

    @Says("-4 a STEP of the SHOT is beyond the other one's LOW or HIGH")
    static void p19_stepsBeyondLowOrHigh() {
        answersOnly(-4, FrameEdgesTest::troupe, x -> x.swap(0, 0, 2));
        answersOnly(-4, FrameEdgesTest::troupe, x -> x.swap(0, 0, 3));
        PuppetFilm film = after(FrameEdgesTest::troupe);
        // LOW and HIGH themselves are not beyond, and the first one's own do not count.
        is(2, tell(film, "tie 0;move 0.0 3 in 1;"));
        is(1, film.swap(2, 0, 2));
        is(3, tell(film, "tie 0;move 0.0 -3 in 1;"));
        is(1, film.swap(3, 0, 3));
        is(4, tell(film, "tie 2;move 2.0 8 in 1;"));
        is(0, film.breach(4, 0));
        is(1, film.swap(4, 2, 0));
        is(NONE, film.breach(4, 0));
        is(-4, film.swap(4, 0, 2));
    }

    @Says("-5 the other one would neither STAND nor be TIED in a frame")
    static void p19_theOtherOneWouldFall() {
        answersOnly(-5, FrameEdgesTest::troupe, x -> x.swap(0, 0, 5));
        PuppetFilm film = after(FrameEdgesTest::troupe);
        film.feet(5, -10, 9);
        is(-5, film.swap(0, 0, 5));
        film.feet(5, -9, 10);
        is(-5, film.swap(0, 0, 5));
        film.feet(5, -10, 10);
        is(1, film.swap(0, 0, 5));
        // TIED in all frames but the first, or the last.
        film.feet(4, 1, 1);
        film.feet(1, 1, 1);
        is(2, tell(film, "hold 1;tie 0;hold 3;"));
        is(-5, film.swap(2, 0, 1));
        is(3, tell(film, "tie 0;hold 3;free 0;hold 1;"));
        is(-5, film.swap(3, 0, 1));
        is(4, tell(film, "tie 0;hold 3;free 0;"));
        is(1, film.swap(4, 0, 1));
    }

    @Says("or, the first of these")
    static void p19_ofSeveralTheFirst() {
        Setup all = x -> {
            troupe(x);
            x.joint(2, 0, 0, 0, 0, 0);
            x.feet(2, 1, 1);
            x.feet(3, 1, 1);
        };
        answersOnly(-3, all, x -> x.swap(0, 0, 2));
        answersOnly(-4, all, x -> x.swap(0, 0, 3));
        answersOnly(-1, all, x -> x.swap(0, 2, 0));
    }

    @Says({"SWAPPED is a PUPPET of the CAST for another one in a SHOT", "wherever the text names the first it is the other one from then on"})
    static void t2_swappedWhereverTheTextNamesIt() {
        troupe(x);
        is(1, x.swap(0, 0, 1));
        is(2, x.told(0, 1));
        is(2, x.told(0, 2));
        steps(0, 1, 0, 2, 4, 0, -4, -4);
        steps(0, 0, 0, 0, 0, 0, 0, 0);
        mouths(0, 1, 1, 1, 2, 2, 0);
        mouths(0, 0, 0, 0, 0, 0, 0);
        bonds(0, 1, 0, 0, 0, 0, 2);
        bonds(0, 0, 0, 0, 0, 0, 0);
        is(1, x.told(0, 5));
        // In this SHOT alone.
        is(3, x.told(1, 1));
        is(4, x.step(1, 0, 0, 0));
        // TIED, it is so as the other one; from the first PUPPET to the last, and back.
        x.puppet();
        x.puppet();
        x.joint(7, NONE, -8, 8, 9, 9);
        x.joint(7, 0, -8, 8, 9, 9);
        is(2, tell("tie 0;hold 1;free 0;rig 0 on;say 0 c at 0;hold 1;tie 0;move 0.0 4,0.1 -4 in 1;"));
        is(1, x.swap(2, 0, 7));
        bonds(2, 7, 1, 2, 3);
        bonds(2, 0, 0, 0, 0);
        steps(2, 7, 1, 0, 0, -4);
        mouths(2, 7, 3, 3, 0);
        is(128, x.told(2, 1));
        is(1, x.swap(2, 7, 0));
        bonds(2, 0, 1, 2, 3);
        bonds(2, 7, 0, 0, 0);
        is(1, x.told(2, 1));
        // And back, and on.
        is(-1, x.swap(0, 0, 2));
        is(1, x.swap(0, 1, 0));
        is(1, x.told(0, 1));
        steps(0, 0, 0, 2, 4, 0, -4, -4);
    }
}
