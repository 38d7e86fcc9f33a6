import java.io.IOException;

/** The edges of HALVES, of what is shot, of DRIFT, and of what is PAINTED (promises 28 to 35, part 5). */
public final class DriftEdgesTest extends Edges {
    public static void main(String[] args) throws IOException {
        run(DriftEdgesTest.class);
    }

    private static void none(PuppetFilm x) {
    }

    /** A SHOT of five frames, three of them shot, RIGGED from frame 2 on; and one of 400, not shot. */
    private static void two(PuppetFilm x) {
        x.puppet();
        tell(x, "hold 2;rig 0 on;hold 3;");
        tell(x, "hold 200;hold 200;");
        x.shoot(0, 3);
        x.wait(4);
        x.measure(0, 1, 7);
        x.paint(0, 3, 3, true);
    }

    private static void measured80Times(PuppetFilm x) {
        two(x);
        for (int n = 2; n <= 80; n++) {
            x.measure(0, n % 3, n);
        }
    }

    /** A SHOT that is all shot. */
    private static void shot(int frames) {
        tell(frames > 200 ? "hold 200;hold " + (frames - 200) + ";" : "hold " + frames + ";");
        x.shoot(x.count(1) - 1, frames);
    }

    private static void mended(int shot, int known, int... due) {
        are(due, (x, frame) -> x.mended(shot, frame, known));
    }

    // HALVES.

    @Says({"Today's HALF is 0 at first.", "So many HALVES go by: today's. IllegalArgumentException: they are not 0 to 1,000."})
    static void p28_wait0To1000() {
        bounds(0, 1000, ARGUMENT, DriftEdgesTest::two, (x, halves) -> x.wait(halves));
        is(0, x.count(3));
        is(0, x.wait(0));
        is(1, x.wait(1));
        is(1001, x.wait(1000));
        is(1001, x.count(3));
        answersOnly(4, DriftEdgesTest::two, x -> x.wait(0));
    }

    @Says("So many HALVES go by: today's.")
    static void p28_onlyTheHalfGoesBy() {
        two(x);
        x.animator(14);
        x.station(0, 0);
        x.queue(0, 1);
        is(1004, x.wait(1000));
        is(NONE, x.on(0, 0));
        is(1, x.on(0, 2));
        is(0, x.told(1, 4));
        is(0, x.worked(0));
        is(NONE, x.stands(0));
        is(0, x.when(0, 2));
    }

    // What is shot.

    @Says("IllegalArgumentException: they are not 0 to 400.")
    static void p29_shoot0To400() {
        bounds(0, 400, ARGUMENT, DriftEdgesTest::two, (x, frames) -> x.shoot(1, frames));
        bounds(0, 400, ARGUMENT, DriftEdgesTest::two, (x, frames) -> x.shoot(0, frames));
        bounds(0, 1, NO_SUCH, DriftEdgesTest::two, (x, shot) -> x.shoot(shot, 0));
        refuses(NO_SUCH, DriftEdgesTest::none, x -> x.shoot(0, 401));
    }

    @Says({"FRAMES of a SHOT are shot from 0 on.", "how many are, together; -1: so many are not left."})
    static void p29_soManyAreNotLeft() {
        answersOnly(-1, DriftEdgesTest::two, x -> x.shoot(0, 3));
        answersOnly(-1, DriftEdgesTest::two, x -> x.shoot(0, 400));
        answersOnly(3, DriftEdgesTest::two, x -> x.shoot(0, 0));
        two(x);
        is(4, x.shoot(0, 1));
        is(-1, x.shoot(0, 2));
        is(5, x.shoot(0, 1));
        is(-1, x.shoot(0, 1));
        is(5, x.shoot(0, 0));
        is(400, x.shoot(1, 400));
        is(-1, x.shoot(1, 1));
        is(400, x.shoot(1, 0));
        is(tell("hold 1;"), 2);
        is(-1, x.shoot(2, 2));
        is(1, x.shoot(2, 1));
    }

    @Says("In which HALF a frame was shot; NONE: it was not.")
    static void p30_theFirstAndTheLastFrame() {
        bounds(0, 4, INDEX, DriftEdgesTest::two, (x, frame) -> x.when(0, frame));
        bounds(0, 399, INDEX, DriftEdgesTest::two, (x, frame) -> x.when(1, frame));
        bounds(0, 1, NO_SUCH, DriftEdgesTest::two, (x, shot) -> x.when(shot, 0));
        refuses(NO_SUCH, DriftEdgesTest::none, x -> x.when(0, 0));
        two(x);
        is(5, x.wait(1));
        x.shoot(0, 1);
        is(1005, x.wait(1000));
        are(new int[] {0, 0, 0, 5, NONE}, (x, frame) -> x.when(0, frame));
        x.shoot(0, 1);
        is(1005, x.when(0, 4));
        x.shoot(1, 399);
        is(1005, x.when(1, 398));
        is(NONE, x.when(1, 399));
    }

    // DRIFT.

    @Says("DRIFT of a frame that was shot may be MEASURED (-1,000 to 1,000)")
    static void p31_driftOfMinus1000To1000() {
        bounds(-1000, 1000, ARGUMENT, DriftEdgesTest::two, (x, drift) -> x.measure(0, 0, drift));
        bounds(-1000, 1000, ARGUMENT, DriftEdgesTest::two, (x, drift) -> x.measure(0, 4, drift));
        bounds(-1000, 1000, ARGUMENT, DriftEdgesTest::measured80Times, (x, drift) -> x.measure(0, 0, drift));
        bounds(0, 4, INDEX, DriftEdgesTest::two, (x, frame) -> x.measure(0, frame, 0));
        bounds(0, 1, NO_SUCH, DriftEdgesTest::two, (x, shot) -> x.measure(shot, 0, 0));
        refuses(INDEX, DriftEdgesTest::two, x -> x.measure(0, 5, 1001));
        refuses(NO_SUCH, DriftEdgesTest::none, x -> x.measure(0, 0, 1001));
        two(x);
        is(2, x.measure(0, 0, -1000));
        is(3, x.measure(0, 1, 1000));
        is(-1000, x.mended(0, 0, 4));
        is(1000, x.mended(0, 1, 4));
    }

    @Says({"80 times at most", "how many times that was done, of all SHOTS; -1: the frame was not shot; -2: 80 times."})
    static void p31_eightyTimesOfAllShots() {
        two(x);
        x.shoot(1, 400);
        for (int n = 2; n <= 80; n++) {
            is(n, n % 2 == 0 ? x.measure(1, 5 * n - 1, n) : x.measure(0, 0, n));
            is(n, x.count(5));
        }
        is(-2, x.measure(0, 1, 5));
        is(-2, x.measure(1, 0, 5));
        is(80, x.count(5));
        is(80, x.mended(1, 399, 4));
        answersOnly(-2, DriftEdgesTest::measured80Times, x -> x.measure(0, 0, 1));
        answersOnly(-2, DriftEdgesTest::measured80Times, x -> x.measure(0, 2, 80));
        answersOnly(-1, DriftEdgesTest::measured80Times, x -> x.measure(0, 3, 1));
    }

    @Says("-1: the frame was not shot")
    static void p31_theFrameWasNotShot() {
        answersOnly(-1, DriftEdgesTest::two, x -> x.measure(0, 3, 0));
        answersOnly(-1, DriftEdgesTest::two, x -> x.measure(0, 4, 1000));
        answersOnly(-1, DriftEdgesTest::two, x -> x.measure(1, 0, 0));
        two(x);
        is(2, x.measure(0, 2, 0));
        x.shoot(0, 1);
        is(3, x.measure(0, 3, 0));
        is(-1, x.measure(0, 4, 0));
    }

    @Says("it is known from the HALF on in which it is told")
    static void p32_knownFromTheHalfOn() {
        two(x);
        // MEASURED in HALF 4.
        int[] known = {LEAST, -1, 0, 3, 4, 5, 1000000, MOST};
        for (int k : known) {
            is(k < 4 ? 0 : 7, x.mended(0, 1, k));
        }
        shot(1);
        PuppetFilm film = new PuppetFilm();
        tell(film, "hold 1;");
        film.shoot(0, 1);
        film.measure(0, 0, -9);
        is(0, film.mended(0, 0, -1));
        is(-9, film.mended(0, 0, 0));
    }

    @Says("another one for that frame takes its place from then on")
    static void p32_anotherOneTakesItsPlaceFromThenOn() {
        shot(3);
        x.measure(0, 1, 10);
        x.wait(2);
        x.measure(0, 1, 20);
        x.measure(0, 1, -30);
        x.wait(3);
        x.measure(0, 1, 0);
        int[] due = {10, 10, -30, -30, -30, 0, 0};
        are(due, (x, known) -> x.mended(0, 1, known));
        are(due, (x, known) -> x.mended(0, 0, known));
        are(due, (x, known) -> x.mended(0, 2, known));
        is(4, x.count(5));
    }

    @Says("else on the straight line between those next to it on both sides, rounded down")
    static void p32_onTheLineRoundedDown() {
        shot(8);
        x.measure(0, 0, 0);
        x.measure(0, 3, 2);
        x.measure(0, 6, -2);
        mended(0, 0, 0, 0, 1, 2, 0, -1, -2, -2);
        x.measure(0, 0, -1);
        x.measure(0, 3, -2);
        x.measure(0, 6, -1);
        mended(0, 0, -1, -2, -2, -2, -2, -2, -1, -1);
        // Those next to it, not those farther away; of other SHOTS none.
        x.measure(0, 2, 100);
        x.measure(0, 4, 50);
        shot(8);
        x.measure(1, 3, 1000);
        mended(0, 0, -1, 49, 100, -2, 50, 24, -1, -1);
        mended(1, 0, 1000, 1000, 1000, 1000, 1000, 1000, 1000, 1000);
    }

    @Says("else on the straight line between those next to it on both sides, rounded down")
    static void p32_onTheLongestLine() {
        shot(400);
        x.measure(0, 0, -1000);
        x.measure(0, 399, 1000);
        is(-995, x.mended(0, 1, 0));
        is(-3, x.mended(0, 199, 0));
        is(2, x.mended(0, 200, 0));
        is(994, x.mended(0, 398, 0));
        is(6, x.leap(0, 0));
        x.measure(0, 0, 1000);
        x.measure(0, 399, -1000);
        is(994, x.mended(0, 1, 0));
        is(-995, x.mended(0, 398, 0));
    }

    @Says("with one side alone by that; 0 without any")
    static void p32_oneSideAloneOrNone() {
        shot(5);
        mended(0, 0, 0, 0, 0, 0, 0);
        x.measure(0, 2, 9);
        mended(0, 0, 9, 9, 9, 9, 9);
        x.wait(1);
        x.measure(0, 0, 1);
        mended(0, 1, 1, 5, 9, 9, 9);
        mended(0, 0, 9, 9, 9, 9, 9);
        x.wait(1);
        x.measure(0, 4, 8);
        mended(0, 2, 1, 5, 9, 8, 8);
        // Frames that were not shot are MENDED, too.
        is(1, tell("hold 6;"));
        x.shoot(1, 2);
        x.measure(1, 1, -4);
        mended(1, 2, -4, -4, -4, -4, -4, -4);
    }

    @Says("MENDED, as KNOWN in a HALF.")
    static void p32_noSuchFrameOrShot() {
        bounds(0, 4, INDEX, DriftEdgesTest::two, (x, frame) -> x.mended(0, frame, 4));
        bounds(0, 399, INDEX, DriftEdgesTest::two, (x, frame) -> x.mended(1, frame, -1));
        bounds(0, 1, NO_SUCH, DriftEdgesTest::two, (x, shot) -> x.mended(shot, 0, 4));
        refuses(NO_SUCH, DriftEdgesTest::none, x -> x.mended(0, 0, 0));
    }

    @Says("LEAP, as KNOWN in a HALF (0 with fewer than two frames shot).")
    static void p33_fewerThanTwoFramesShot() {
        tell("hold 5;");
        tell("hold 1;");
        is(0, x.leap(0, MOST));
        x.shoot(0, 1);
        x.shoot(1, 1);
        x.measure(0, 0, 1000);
        x.measure(1, 0, 1000);
        is(0, x.leap(0, MOST));
        is(0, x.leap(1, MOST));
        x.shoot(0, 1);
        is(0, x.leap(0, 0));
        x.measure(0, 1, -1000);
        is(2000, x.leap(0, 0));
        is(0, x.leap(0, -1));
        is(0, x.leap(0, LEAST));
    }

    @Says("how far MENDED of two frames side by side that were shot (by now) are apart at most")
    static void p33_onlyFramesThatWereShot() {
        tell("hold 4;");
        x.shoot(0, 3);
        x.measure(0, 0, 5);
        x.measure(0, 2, 5);
        is(0, x.leap(0, 0));
        x.measure(0, 1, 6);
        is(1, x.leap(0, 0));
        x.measure(0, 2, 4);
        is(2, x.leap(0, 0));
        // By now: frames shot later count as KNOWN ahead, too.
        x.wait(3);
        x.shoot(0, 1);
        x.measure(0, 3, 104);
        is(100, x.leap(0, 3));
        is(2, x.leap(0, 2));
        bounds(0, 1, NO_SUCH, DriftEdgesTest::two, (x, shot) -> x.leap(shot, 0));
    }

    // PAINTED.

    @Says("Frames from one to another are PAINTED, or not any more: how many changed.")
    static void p34_howManyChanged() {
        two(x);
        is(0, x.paint(1, 0, 399, false));
        is(400, x.paint(1, 0, 399, true));
        is(0, x.paint(1, 0, 399, true));
        is(1, x.paint(1, 0, 0, false));
        is(1, x.paint(1, 399, 399, false));
        is(398, x.paint(1, 0, 399, false));
        is(4, x.paint(0, 0, 4, true));
        answersOnly(0, DriftEdgesTest::two, x -> x.paint(0, 3, 3, true));
        answersOnly(0, DriftEdgesTest::two, x -> x.paint(0, 0, 2, false));
    }

    @Says("IndexOutOfBoundsException: no such frames (the second ahead of the first, too).")
    static void p34_noSuchFrames() {
        bounds(0, 4, INDEX, DriftEdgesTest::two, (x, from) -> x.paint(0, from, 4, true));
        bounds(0, 4, INDEX, DriftEdgesTest::two, (x, to) -> x.paint(0, 0, to, true));
        for (int frame = 1; frame < 5; frame++) {
            int from = frame;
            refuses(INDEX, DriftEdgesTest::two, x -> x.paint(0, from, from - 1, true));
            refuses(INDEX, DriftEdgesTest::two, x -> x.paint(0, from, 0, false));
        }
        refuses(INDEX, DriftEdgesTest::two, x -> x.paint(0, 5, 5, true));
        refuses(INDEX, DriftEdgesTest::two, x -> x.paint(0, -1, -1, true));
        refuses(INDEX, DriftEdgesTest::two, x -> x.paint(0, LEAST, MOST, true));
        bounds(0, 1, NO_SUCH, DriftEdgesTest::two, (x, shot) -> x.paint(shot, 0, 0, true));
        refuses(NO_SUCH, DriftEdgesTest::none, x -> x.paint(0, 1, 0, true));
    }

    @Says("The first DIRTY frame from one on (also from below 0); NONE: none.")
    static void p35_fromAnywhereOn() {
        two(x);
        // RIGGED in 2, 3 and 4; 3 is PAINTED.
        int[] from = {LEAST, -1, 0, 2, 3, 4, 5, 6, 400, MOST};
        int[] due = {2, 2, 2, 2, 4, 4, NONE, NONE, NONE, NONE};
        for (int k = 0; k < from.length; k++) {
            is(due[k], x.dirty(0, from[k]));
            is(NONE, x.dirty(1, from[k]));
        }
        bounds(0, 1, NO_SUCH, DriftEdgesTest::two, (x, shot) -> x.dirty(shot, 0));
        refuses(NO_SUCH, DriftEdgesTest::none, x -> x.dirty(0, 0));
    }

    @Says({"PAINTED are frames of a SHOT, or not (not at first).", "DIRTY is a frame in which a PUPPET is RIGGED, if it is not PAINTED."})
    static void t5_dirtyFromNoneToAll() {
        x.puppet();
        is(0, tell("rig 0 on;hold 200;hold 200;"));
        is(400, x.told(0, 5));
        for (int from : new int[] {LEAST, -1, 0}) {
            is(0, x.dirty(0, from));
        }
        is(1, x.dirty(0, 1));
        is(399, x.dirty(0, 399));
        is(NONE, x.dirty(0, 400));
        is(400, x.paint(0, 0, 399, true));
        is(0, x.told(0, 5));
        is(NONE, x.dirty(0, 0));
        is(1, x.paint(0, 399, 399, false));
        is(399, x.dirty(0, -5));
        is(1, x.told(0, 5));
        // PAINTED is a frame also where nobody is RIGGED.
        is(1, tell("hold 1;rig 0 on;rig 0 off;"));
        is(1, x.paint(1, 0, 0, true));
        is(0, x.told(1, 5));
    }
}
