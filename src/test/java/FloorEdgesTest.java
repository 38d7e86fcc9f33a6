import java.io.IOException;

/** The edges of the FLOOR: ANIMATORS, WEEKS, QUEUES, SETS that STAND, FORETOLD; and count (promises 36 to 44, part 6). */
public final class FloorEdgesTest extends Edges {
    public static void main(String[] args) throws IOException {
        run(FloorEdgesTest.class);
    }

    private static void none(PuppetFilm x) {
    }

    /** SHOTS of some frames, each in a SET of its own (as far as there are SETS), and an ANIMATOR in each UNIT. */
    private static void shots(PuppetFilm x, int... frames) {
        for (int s = 0; s < frames.length; s++) {
            tell(x, frames[s] > 200 ? "hold 200;hold " + (frames[s] - 200) + ";" : "hold " + frames[s] + ";");
            x.set(2, s, s % 8);
        }
        for (int unit = 0; unit < 3; unit++) {
            x.station(unit, x.animator(14));
        }
    }

    /** Four SHOTS: 0 is ON in UNIT 0, 1 and 2 are in its QUEUE, 3 is all shot; it goes on in HALF 2. */
    private static void busy(PuppetFilm x) {
        shots(x, 30, 30, 30, 10);
        x.shoot(3, 10);
        x.queue(0, 0);
        x.queue(0, 1);
        x.queue(0, 2);
        x.floor(2);
    }

    private static void sixAnimators(PuppetFilm x) {
        for (int a = 0; a < 6; a++) {
            x.animator(a);
        }
        x.station(1, 5);
    }

    /** Ten SHOTS in the QUEUE of UNIT 1; 10 is in no QUEUE, 11 is all shot. */
    private static void fullQueue(PuppetFilm x) {
        shots(x, 5, 5, 5, 5, 5, 5, 5, 5, 5, 5, 5, 5);
        for (int s = 0; s < 10; s++) {
            x.queue(1, s);
        }
        x.shoot(11, 5);
    }

    private static void on(int unit, int... due) {
        are(due, (x, what) -> x.on(unit, what));
    }

    private static void stand(int... due) {
        are(due, (x, set) -> x.stands(set));
    }

    private static void taken(int... due) {
        are(due, (x, shot) -> x.told(shot, 4));
    }

    // ANIMATORS.

    @Says({"ANIMATORS, numbered from 0 on, 6 at most", "An ANIMATOR: its number; -1: there are 6."})
    static void p36_sixAnimators() {
        for (int a = 0; a < 6; a++) {
            is(a, x.animator(a));
        }
        is(-1, x.animator(0));
        is(-1, x.animator(14));
        answersOnly(-1, FloorEdgesTest::sixAnimators, x -> x.animator(7));
    }

    @Says("ANIMATORS, numbered from 0 on, 6 at most")
    static void p36_theSixthWorksAsTheFirst() {
        shots(x, 30, 30, 30);
        for (int a = 3; a < 6; a++) {
            is(a, x.animator(a));
            x.station(a - 3, a);
            x.queue(a - 3, a - 3);
        }
        x.floor(3);
        taken(20, 20, 20);
        are(new int[] {0, 0, 0, 2, 2, 2}, (x, animator) -> x.worked(animator));
    }

    @Says({"work at most so many HALVES in a WEEK (0 to 14;", "IllegalArgumentException: the HALVES."})
    static void p36_halvesOf0To14() {
        bounds(0, 14, ARGUMENT, FloorEdgesTest::none, (x, halves) -> x.animator(halves));
        bounds(0, 14, ARGUMENT, FloorEdgesTest::busy, (x, halves) -> x.animator(halves));
        bounds(0, 14, ARGUMENT, FloorEdgesTest::sixAnimators, (x, halves) -> x.animator(halves));
    }

    @Says("A UNIT has an ANIMATOR from now on (NONE: none): which it had.")
    static void p37_whichItHad() {
        sixAnimators(x);
        is(NONE, x.station(0, 0));
        is(0, x.station(0, 5));
        is(5, x.station(0, NONE));
        is(NONE, x.station(0, NONE));
        is(5, x.station(1, 5));
        is(NONE, x.station(2, 5));
        is(5, x.station(2, 5));
    }

    @Says("IndexOutOfBoundsException: no such UNIT; IllegalArgumentException: no such ANIMATOR.")
    static void p37_noSuchUnitOrAnimator() {
        bounds(0, 2, INDEX, FloorEdgesTest::sixAnimators, (x, unit) -> x.station(unit, 0));
        bounds(-1, 5, ARGUMENT, FloorEdgesTest::sixAnimators, (x, animator) -> x.station(1, animator));
        bounds(-1, 2, ARGUMENT, FloorEdgesTest::busy, (x, animator) -> x.station(2, animator));
        bounds(-1, -1, ARGUMENT, FloorEdgesTest::none, (x, animator) -> x.station(0, animator));
        refuses(INDEX, FloorEdgesTest::none, x -> x.station(3, 0));
    }

    @Says("A UNIT has an ANIMATOR (none at first; one may be in more than one UNIT)")
    static void t6_noneAtFirstAndOneInThree() {
        shots(x, 10, 20, 30);
        are(new int[] {0, 1, 2}, (x, unit) -> x.station(unit, NONE));
        for (int unit = 0; unit < 3; unit++) {
            x.queue(unit, unit);
        }
        x.floor(9);
        taken(0, 0, 0);
        is(NONE, x.foretold());
        for (int unit = 0; unit < 3; unit++) {
            x.station(unit, 1);
        }
        // One more for each UNIT.
        x.floor(1);
        taken(10, 10, 10);
        are(new int[] {0, 3, 0}, (x, animator) -> x.worked(animator));
    }

    // WEEKS.

    @Says("WEEKS are 14 HALVES each, from HALF 0 on")
    static void t6_aWeekEndsBehindHalf13() {
        shots(x, 400);
        x.queue(0, 0);
        x.set(0, 0, 1);
        is(14, x.floor(14));
        // HALF 0 was of dressing; 13 were worked, and HALF 14 is of another WEEK.
        is(13, x.told(0, 4));
        is(0, x.worked(0));
        x.floor(1);
        is(1, x.worked(0));
        is(28, x.floor(13));
        is(0, x.worked(0));
        is(27, x.told(0, 4));
    }

    @Says("WEEKS are 14 HALVES each, from HALF 0 on")
    static void p42_workedOfThisWeekAlone() {
        shots(x, 400);
        x.queue(0, 0);
        is(13, x.floor(13));
        is(12, x.worked(0));
        is(13, x.wait(0));
        is(12, x.worked(0));
        is(14, x.wait(1));
        is(0, x.worked(0));
        // Over many WEEKS.
        x.floor(5);
        is(5, x.worked(0));
        is(1019, x.wait(1000));
        is(0, x.worked(0));
        x.floor(3);
        // 1,022 begins a WEEK.
        is(0, x.worked(0));
        is(0, x.worked(2));
    }

    @Says("if the UNIT's ANIMATOR worked fewer HALVES in this WEEK than told")
    static void t6_worksAsManyHalvesAsTold() {
        for (int told : new int[] {0, 1, 13, 14}) {
            x = new PuppetFilm();
            tell("hold 200;hold 200;");
            x.set(1, 0, 0);
            x.set(0, 0, 1);
            x.station(0, x.animator(told));
            x.queue(0, 0);
            x.floor(13);
            is(Math.min(told, 13), x.worked(0));
            x.floor(1);
            is(told, x.told(0, 4));
            x.floor(14);
            is(2 * told, x.told(0, 4));
        }
    }

    @Says("How many HALVES of this WEEK an ANIMATOR worked. IllegalArgumentException: no such ANIMATOR.")
    static void p42_noSuchAnimator() {
        bounds(0, 5, ARGUMENT, FloorEdgesTest::sixAnimators, (x, animator) -> x.worked(animator));
        bounds(0, 2, ARGUMENT, FloorEdgesTest::busy, (x, animator) -> x.worked(animator));
        refusesAll(new int[] {0, -1, 6, LEAST, MOST}, ARGUMENT, FloorEdgesTest::none, (x, animator) -> x.worked(animator));
    }

    // QUEUES.

    @Says({"a QUEUE of SHOTS, 10 at most", "A SHOT comes behind in a QUEUE: how many are in it", "-1 it has 10"})
    static void p38_tenInAQueue() {
        shots(x, 5, 5, 5, 5, 5, 5, 5, 5, 5, 5, 5, 5);
        for (int s = 0; s < 10; s++) {
            is(s + 1, x.queue(1, s));
            is(s + 1, x.on(1, 2));
            is(0, x.on(1, 3));
        }
        is(-1, x.queue(1, 10));
        is(10, x.on(1, 2));
        is(1, x.queue(2, 10));
        answersOnly(-1, FloorEdgesTest::fullQueue, x -> x.queue(1, 10));
        // One of them is ON: there is room for one again.
        x.floor(1);
        is(9, x.on(1, 2));
        is(10, x.queue(1, 11));
    }

    @Says("a QUEUE of SHOTS, 10 at most")
    static void t6_allTenComeOneAfterTheOther() {
        fullQueue(x);
        for (int s = 0; s < 10; s++) {
            x.set(2, s, 0);
        }
        x.set(1, 0, 0);
        for (int half = 0; half < 10; half++) {
            on(1, NONE, NONE, 10 - half, half);
            x.floor(1);
            is(half, x.when(half, 4));
            is(half < 9 ? 1 : NONE, x.stands(0));
        }
        on(1, NONE, NONE, 0, NONE);
    }

    @Says({"A SHOT is in one QUEUE at most", "-2 the SHOT is in a QUEUE, or ON"})
    static void p38_inAQueueOrOn() {
        for (int unit = 0; unit < 3; unit++) {
            int u = unit;
            answersOnly(-2, FloorEdgesTest::busy, x -> x.queue(u, 0));
            answersOnly(-2, FloorEdgesTest::busy, x -> x.queue(u, 1));
            answersOnly(-2, FloorEdgesTest::busy, x -> x.queue(u, 2));
        }
    }

    @Says("-3 it is all shot")
    static void p38_allShot() {
        answersOnly(-3, FloorEdgesTest::busy, x -> x.queue(0, 3));
        tell("hold 5;");
        x.shoot(0, 4);
        is(1, x.queue(0, 0));
        tell("hold 5;");
        x.shoot(1, 5);
        is(-3, x.queue(0, 1));
    }

    @Says("or, the first of these: -1 it has 10; -2 the SHOT is in a QUEUE, or ON; -3 it is all shot.")
    static void p38_ofSeveralTheFirst() {
        answersOnly(-1, FloorEdgesTest::fullQueue, x -> x.queue(1, 0));
        answersOnly(-1, FloorEdgesTest::fullQueue, x -> x.queue(1, 11));
        answersOnly(-2, FloorEdgesTest::fullQueue, x -> x.queue(0, 9));
        answersOnly(-3, FloorEdgesTest::fullQueue, x -> x.queue(0, 11));
        Setup shotInQueue = x -> {
            fullQueue(x);
            x.shoot(4, 5);
        };
        answersOnly(-2, shotInQueue, x -> x.queue(0, 4));
        answersOnly(-1, shotInQueue, x -> x.queue(1, 4));
    }

    @Says("IndexOutOfBoundsException: no such UNIT.")
    static void p38_noSuchUnitOrShot() {
        bounds(0, 2, INDEX, FloorEdgesTest::busy, (x, unit) -> x.queue(unit, 3));
        bounds(0, 3, NO_SUCH, FloorEdgesTest::busy, (x, shot) -> x.queue(0, shot));
        bounds(0, 11, NO_SUCH, FloorEdgesTest::fullQueue, (x, shot) -> x.queue(1, shot));
        refuses(NO_SUCH, FloorEdgesTest::none, x -> x.queue(0, 0));
    }

    // HALVES on the FLOOR.

    @Says("So many HALVES go by on the FLOOR: today's. IllegalArgumentException: they are not 0 to 100.")
    static void p39_floor0To100() {
        bounds(0, 100, ARGUMENT, FloorEdgesTest::none, (x, halves) -> x.floor(halves));
        bounds(0, 100, ARGUMENT, FloorEdgesTest::busy, (x, halves) -> x.floor(halves));
        is(0, x.floor(0));
        is(1, x.floor(1));
        is(101, x.floor(100));
        answersOnly(2, FloorEdgesTest::busy, x -> x.floor(0));
    }

    @Says({"Of a UNIT: 0 the SHOT that is ON (NONE), 1 how many HALVES its SET was dressed (NONE: it is not being dressed)",
        "2 how many are in the QUEUE, 3 the first of these (NONE)"})
    static void p40_fourWhats() {
        bounds(0, 3, ARGUMENT, FloorEdgesTest::busy, (x, what) -> x.on(0, what));
        bounds(0, 3, ARGUMENT, FloorEdgesTest::none, (x, what) -> x.on(2, what));
        bounds(0, 2, INDEX, FloorEdgesTest::busy, (x, unit) -> x.on(unit, 0));
        refuses(INDEX, FloorEdgesTest::busy, x -> x.on(3, 4));
        for (int unit = 0; unit < 3; unit++) {
            on(unit, NONE, NONE, 0, NONE);
        }
        busy(x);
        on(0, 0, NONE, 2, 1);
        on(1, NONE, NONE, 0, NONE);
    }

    @Says("The UNIT in which a SET STANDS; NONE. IllegalArgumentException: no such SET.")
    static void p41_noSuchSet() {
        bounds(0, 7, ARGUMENT, FloorEdgesTest::none, (x, set) -> x.stands(set));
        bounds(0, 7, ARGUMENT, FloorEdgesTest::busy, (x, set) -> x.stands(set));
        busy(x);
        stand(0, NONE, NONE, NONE, NONE, NONE, NONE, NONE);
    }

    @Says({"ON in a UNIT from when it is begun there till all its frames are shot", "if that was all, it is ON no more"})
    static void t6_onFromWhenItIsBegunTillAllIsShot() {
        shots(x, 11);
        x.queue(2, 0);
        on(2, NONE, NONE, 1, 0);
        x.floor(1);
        on(2, 0, NONE, 0, NONE);
        x.floor(1);
        taken(10);
        on(2, 0, NONE, 0, NONE);
        x.floor(1);
        taken(11);
        on(2, NONE, NONE, 0, NONE);
        are(new int[] {1, 1, 1, 1, 1, 1, 1, 1, 1, 1, 2}, (x, frame) -> x.when(0, frame));
        is(2, x.worked(2));
    }

    @Says("SHOTS of its QUEUE that are all shot are out of it")
    static void t6a_allShotAreOutOfTheQueue() {
        shots(x, 5, 5, 5, 5);
        for (int s = 0; s < 4; s++) {
            x.queue(0, s);
        }
        x.shoot(0, 5);
        x.shoot(2, 5);
        x.shoot(3, 4);
        on(0, NONE, NONE, 4, 0);
        x.floor(1);
        on(0, 1, NONE, 1, 3);
        is(-3, x.queue(1, 0));
        // While one is ON, none goes out.
        x.shoot(3, 1);
        x.floor(1);
        on(0, NONE, NONE, 1, 3);
        x.floor(1);
        on(0, NONE, NONE, 0, NONE);
        is(3, x.count(3));
    }

    @Says("SHOTS of its QUEUE that are all shot are out of it")
    static void t6a_aQueueOfWhichAllAreShotIsEmpty() {
        fullQueue(x);
        for (int s = 0; s < 10; s++) {
            x.shoot(s, 5);
        }
        is(10, x.on(1, 2));
        is(1, x.foretold());
        x.floor(1);
        on(1, NONE, NONE, 0, NONE);
        is(0, x.foretold());
        is(1, x.queue(1, 10));
    }

    @Says({"A SHOT that is ON HOLDS its SET, its CAST, and the KITS of those in it who say something.",
        "then the first of its QUEUE is ON, and out of the QUEUE, whose SET STANDS in no other UNIT and of which nothing is HELD by one that is ON"})
    static void t6a_theFirstOfWhichNothingIsHeld() {
        for (int p = 0; p < 8; p++) {
            x.puppet();
            x.kit(p, p % 4);
        }
        tell("hold 20;tie 0;say 1 a at 0;");
        tell("hold 20;tie 0;");
        tell("hold 20;say 5 a at 0;");
        tell("hold 20;tie 5;say 2 a at 400;");
        tell("hold 20;");
        for (int s = 0; s < 4; s++) {
            x.set(2, s, s);
        }
        x.station(0, x.animator(14));
        x.queue(0, 0);
        // 4 has SET 0, 1 the PUPPET, 2 the KIT; 3 has nothing of these.
        for (int s : new int[] {4, 1, 2, 3}) {
            x.queue(1, s);
        }
        x.floor(1);
        on(0, 0, NONE, 0, NONE);
        on(1, 3, NONE, 3, 4);
        // With two heads each takes four HALVES of 5 frames.
        x.floor(4);
        is(NONE, x.on(0, 0));
        taken(20, 0, 0, 0, 0);
        on(1, 3, NONE, 3, 4);
        x.station(1, x.animator(14));
        x.floor(4);
        is(20, x.told(3, 4));
        on(1, NONE, NONE, 3, 4);
        // Nothing is HELD any more; but SET 0 STANDS in UNIT 0, as SHOT 4 has it.
        x.floor(1);
        on(1, 1, NONE, 2, 4);
        x.floor(2);
        on(1, NONE, NONE, 2, 4);
        x.floor(1);
        on(1, 2, NONE, 1, 4);
    }

    @Says("whose SET STANDS in no other UNIT")
    static void t6a_theSetStandsInAnotherUnit() {
        shots(x, 10, 10, 10);
        x.set(2, 1, 0);
        x.queue(0, 0);
        x.queue(0, 1);
        x.floor(2);
        // SHOT 0 is done; SET 0 STANDS in UNIT 0, as SHOT 1 in its QUEUE has it.
        on(0, NONE, NONE, 1, 1);
        is(0, x.stands(0));
        x.set(2, 2, 0);
        x.queue(1, 2);
        x.station(0, NONE);
        x.floor(1);
        on(0, 1, NONE, 0, NONE);
        on(1, NONE, NONE, 1, 2);
        x.station(0, 0);
        x.floor(1);
        // UNIT 0 came ahead of UNIT 1 in that HALF: nothing is HELD, but the SET STANDS there, as SHOT 2 has it.
        is(10, x.told(1, 4));
        on(0, NONE, NONE, 0, NONE);
        on(1, NONE, NONE, 1, 2);
        is(0, x.stands(0));
        x.floor(20);
        on(1, NONE, NONE, 1, 2);
        is(NONE, x.foretold());
        // In that UNIT it may begin.
        x.set(2, 2, 5);
        is(2, x.foretold());
    }

    @Says({"another SET that was being dressed there is not any more", "its SET doesn't STAND there, and isn't being dressed there, that begins now"})
    static void t6b_anotherSetThatWasBeingDressed() {
        shots(x, 10);
        x.set(1, 0, 5);
        x.set(1, 1, 2);
        x.queue(0, 0);
        x.floor(3);
        on(0, 0, 3, 0, NONE);
        x.set(2, 0, 1);
        x.floor(1);
        on(0, 0, 1, 0, NONE);
        // Back again: it begins anew.
        x.set(2, 0, 0);
        x.floor(1);
        on(0, 0, 1, 0, NONE);
        x.floor(4);
        on(0, 0, NONE, 0, NONE);
        is(0, x.stands(0));
        is(NONE, x.stands(1));
        taken(0);
    }

    @Says("another SET that was being dressed there is not any more")
    static void t6b_whatIsNotDressedAnyMoreLeavesRoom() {
        shots(x, 30, 10, 10);
        x.set(2, 1, 6);
        x.set(2, 2, 7);
        for (int set : new int[] {1, 2, 6, 7}) {
            x.set(1, set, 9);
        }
        x.queue(0, 0);
        x.queue(1, 1);
        x.floor(1);
        is(0, x.stands(0));
        // SET 1 is being dressed in UNIT 0, 6 in UNIT 1, and 0 STANDS: no room for a fourth.
        x.set(2, 0, 1);
        x.queue(2, 2);
        x.floor(1);
        on(0, 0, 1, 0, NONE);
        on(2, 2, NONE, 0, NONE);
        // SET 0 again: 1 is not dressed any more.
        x.set(2, 0, 0);
        x.floor(1);
        is(10, x.told(0, 4));
        on(0, 0, NONE, 0, NONE);
        on(2, 2, 1, 0, NONE);
        // UNIT 2 drops SET 7, and so there is room for 2.
        x.set(2, 2, 2);
        x.station(0, NONE);
        x.floor(1);
        on(2, 2, 1, 0, NONE);
    }

    @Says("3 at most STAND or are being dressed")
    static void t6b_threeStandInOneUnit() {
        shots(x, 30);
        for (int set = 3; set < 6; set++) {
            x.set(2, 0, set);
            x.queue(0, 0);
            x.floor(1);
            is(0, x.stands(set));
        }
        stand(NONE, NONE, NONE, 0, 0, 0, NONE, NONE);
        x.set(2, 0, 6);
        x.floor(3);
        is(NONE, x.stands(6));
        on(0, 0, NONE, 0, NONE);
        is(NONE, x.foretold());
        // One of those three is its SET again; then they STAND on, as nobody strikes them.
        x.set(2, 0, 4);
        is(3, x.foretold());
        x.floor(3);
        on(0, NONE, NONE, 0, NONE);
        stand(NONE, NONE, NONE, 0, NONE, 0, NONE, NONE);
    }

    @Says("if fewer than 3 STAND or are being dressed")
    static void t6b_beingDressedCountsInEachUnit() {
        for (int idle = 0; idle < 3; idle++) {
            x = new PuppetFilm();
            shots(x, 30, 30, 30);
            // Two UNITS dress for long; the third one has a SET that STANDS, and asks for another.
            for (int unit = 0; unit < 3; unit++) {
                x.set(1, unit, unit == idle ? 0 : 20);
                x.queue(unit, unit);
            }
            x.floor(1);
            x.set(2, idle, 5);
            x.floor(1);
            on(idle, idle, NONE, 0, NONE);
            is(NONE, x.stands(5));
            is(10, x.told(idle, 4));
        }
    }

    @Says({"if fewer than 3 STAND or are being dressed (else nothing is done here in this HALF)", "3 at most STAND or are being dressed"})
    static void t6b_aFourthSetIsNotDressed() {
        shots(x, 10, 10, 10, 10);
        for (int unit = 0; unit < 3; unit++) {
            x.queue(unit, unit);
        }
        x.set(1, 2, 20);
        x.floor(1);
        // Two STAND, one is being dressed.
        stand(0, 1, NONE, NONE, NONE, NONE, NONE, NONE);
        is(1, x.on(2, 1));
        x.set(2, 0, 3);
        x.station(1, NONE);
        x.floor(5);
        on(0, 0, NONE, 0, NONE);
        is(NONE, x.stands(3));
        is(6, x.on(2, 1));
        taken(0, 0, 0, 0);
        // UNIT 1 is done, and its SET is STRUCK: there is room for one, in the HALF behind for UNIT 0.
        x.station(1, 1);
        x.floor(1);
        stand(0, NONE, NONE, NONE, NONE, NONE, NONE, NONE);
        on(0, 0, NONE, 0, NONE);
        x.floor(1);
        stand(0, NONE, NONE, 0, NONE, NONE, NONE, NONE);
    }

    @Says("if fewer than 3 STAND or are being dressed")
    static void t6b_theThirdSetIsDressed() {
        shots(x, 10, 10, 10);
        for (int s = 0; s < 3; s++) {
            x.set(1, s, 20);
            x.queue(s, s);
        }
        x.floor(1);
        for (int unit = 0; unit < 3; unit++) {
            on(unit, unit, 1, 0, NONE);
        }
        x.floor(18);
        for (int unit = 0; unit < 3; unit++) {
            on(unit, unit, 19, 0, NONE);
        }
        x.floor(1);
        stand(0, 1, 2, NONE, NONE, NONE, NONE, NONE);
        taken(0, 0, 0);
        x.floor(1);
        taken(10, 10, 10);
        stand(NONE, NONE, NONE, NONE, NONE, NONE, NONE, NONE);
        is(20, x.when(2, 9));
    }

    @Says({"that hasn't gone on for DRESS HALVES yet, this is one of them, and nothing else is done here",
        "when it has gone on for DRESS HALVES it STANDS (in that HALF)"})
    static void t6c_dressOf0To20() {
        for (int dress : new int[] {0, 1, 2, 19, 20}) {
            x = new PuppetFilm();
            shots(x, 10);
            x.set(1, 0, dress);
            x.queue(0, 0);
            is(dress + 1, x.foretold());
            x.floor(dress);
            taken(0);
            is(0, x.worked(0));
            x.floor(1);
            taken(10);
            is(dress, x.when(0, 0));
        }
    }

    @Says({"SETS STAND in a UNIT once they are dressed there, till they are STRUCK", "when it has gone on for DRESS HALVES it STANDS (in that HALF)"})
    static void t6c_standsAtTheEndOfTheLastOfItsHalves() {
        shots(x, 20);
        x.set(1, 0, 3);
        x.queue(1, 0);
        x.floor(1);
        is(1, x.on(1, 1));
        is(NONE, x.stands(0));
        x.floor(1);
        is(2, x.on(1, 1));
        is(NONE, x.stands(0));
        x.floor(1);
        is(NONE, x.on(1, 1));
        is(1, x.stands(0));
        taken(0);
    }

    @Says("A SET that is told for a SHOT, RATES, DRESS count as they are in that HALF.")
    static void t6c_dressAsItIsInThatHalf() {
        shots(x, 20);
        x.set(1, 0, 20);
        x.queue(0, 0);
        x.floor(5);
        is(5, x.on(0, 1));
        // Gone on for five: it STANDS in that HALF, and frames are shot in it.
        x.set(1, 0, 5);
        x.floor(1);
        is(0, x.stands(0));
        taken(10);
        // What STANDS is not dressed again.
        x.set(1, 0, 20);
        x.set(0, 0, 7);
        x.floor(1);
        taken(17);
        // RATE 3: 3 more, and that is all.
        x.set(0, 0, 3);
        x.floor(1);
        taken(20);
        on(0, NONE, NONE, 0, NONE);
    }

    @Says("RATE by how many are CAST (1 at least), cut, frames are shot, 1 at least, or what is left")
    static void t6d_rateByHeadsCut() {
        StringBuilder all = new StringBuilder("hold 20;");
        for (int p = 0; p < 8; p++) {
            x.puppet();
            all.append("tie ").append(p).append(";");
        }
        tell(all.toString());
        x.set(1, 0, 0);
        x.station(0, x.animator(14));
        x.queue(0, 0);
        int[][] due = {{1, 1}, {7, 1}, {8, 1}, {15, 1}, {16, 2}, {100, 12}};
        int sum = 0;
        for (int[] d : due) {
            x.set(0, 0, d[0]);
            x.floor(1);
            sum += d[1];
            is(sum, x.told(0, 4));
        }
        // Two are left of twelve.
        is(18, sum);
        x.floor(1);
        is(20, x.told(0, 4));
        is(NONE, x.on(0, 0));
        is(7, x.worked(0));
    }

    @Says("RATE by how many are CAST (1 at least), cut, frames are shot, 1 at least, or what is left")
    static void t6d_withNobodyCastAsWithOne() {
        shots(x, 400, 100);
        x.set(1, 0, 0);
        x.set(1, 1, 0);
        x.set(0, 0, 100);
        x.set(0, 1, 1);
        x.queue(0, 0);
        x.queue(1, 1);
        x.floor(1);
        taken(100, 1);
        x.floor(3);
        taken(400, 4);
        on(0, NONE, NONE, 0, NONE);
    }

    @Says({"(d) If it STANDS there", "if all frames are shot, the SHOT is ON no more (and nothing else is done)"})
    static void t6d_allShotByHandWhileOn() {
        busy(x);
        is(1, x.worked(0));
        is(10, x.told(0, 4));
        x.shoot(0, 20);
        is(0, x.on(0, 0));
        is(-2, x.queue(1, 0));
        x.floor(1);
        on(0, NONE, NONE, 2, 1);
        is(1, x.worked(0));
        is(NONE, x.stands(0));
        is(-3, x.queue(1, 0));
        // While its SET is being dressed it stays ON.
        x = new PuppetFilm();
        shots(x, 5);
        x.set(1, 0, 3);
        x.queue(0, 0);
        x.floor(1);
        x.shoot(0, 5);
        x.floor(2);
        is(0, x.on(0, 0));
        x.floor(1);
        is(NONE, x.on(0, 0));
        is(0, x.worked(0));
    }

    @Says("(e) When a SHOT is ON no more, nothing is being dressed there, and its SET is STRUCK, if no SHOT in a QUEUE, and none that is ON, has it")
    static void t6e_struckIfNobodyHasIt() {
        shots(x, 10, 10, 10);
        x.set(2, 1, 0);
        x.queue(0, 0);
        x.queue(2, 1);
        x.floor(2);
        // In the QUEUE of another UNIT: that is a SHOT in a QUEUE.
        on(2, NONE, NONE, 1, 1);
        is(0, x.stands(0));
        // Also the first SHOT, and also one that is ON elsewhere.
        x = new PuppetFilm();
        shots(x, 10, 10, 10);
        x.set(2, 1, 0);
        x.queue(0, 1);
        x.queue(0, 0);
        x.floor(2);
        on(0, NONE, NONE, 1, 0);
        is(0, x.stands(0));
        x.queue(1, 2);
        x.floor(1);
        x.set(2, 2, 0);
        x.floor(1);
        is(10, x.told(0, 4));
        on(0, NONE, NONE, 0, NONE);
        // A SHOT that is in no QUEUE has it in vain.
        x = new PuppetFilm();
        shots(x, 10, 10, 10);
        x.set(2, 1, 0);
        x.queue(0, 0);
        x.floor(2);
        is(NONE, x.stands(0));
        // One that is all shot, but in a QUEUE.
        x = new PuppetFilm();
        shots(x, 10, 10, 10);
        x.set(2, 1, 0);
        x.queue(0, 0);
        x.queue(0, 1);
        x.floor(1);
        x.shoot(1, 10);
        x.floor(1);
        on(0, NONE, NONE, 1, 1);
        is(0, x.stands(0));
        // It goes out of the QUEUE, and nothing is STRUCK by that.
        x.floor(1);
        on(0, NONE, NONE, 0, NONE);
        is(0, x.stands(0));
    }

    @Says("Behind all UNITS today's HALF is one more.")
    static void t6_unitsOneAfterTheOther() {
        shots(x, 10, 10, 10);
        x.set(2, 1, 0);
        x.set(2, 2, 0);
        x.set(1, 0, 0);
        // All have SET 0: UNIT 0 is first, and done in HALF 0; but its SET STANDS there still.
        for (int unit = 2; unit >= 0; unit--) {
            x.queue(unit, unit);
        }
        x.floor(1);
        taken(10, 0, 0);
        is(0, x.when(0, 9));
        is(0, x.stands(0));
        on(1, NONE, NONE, 1, 1);
        x.set(2, 2, 2);
        x.set(2, 1, 1);
        x.floor(2);
        taken(10, 10, 10);
        is(2, x.when(1, 0));
        is(2, x.when(2, 0));
    }

    // FORETOLD, count.

    @Says({"FORETOLD: how many HALVES of the FLOOR it takes from now on till all QUEUES are empty and none is ON",
        "FORETOLD; NONE: it isn't done in 2,000."})
    static void p43_doneIn2000AndNotIn2001() {
        shots(x, 400, 400, 400, 400, 400);
        for (int s = 0; s < 5; s++) {
            x.set(2, s, 0);
        }
        x.set(0, 0, 1);
        x.set(1, 0, 0);
        for (int s = 0; s < 5; s++) {
            x.queue(0, s);
        }
        is(2000, x.foretold());
        x.set(1, 0, 1);
        is(NONE, x.foretold());
        x.floor(1);
        is(2000, x.foretold());
        x.floor(100);
        is(1900, x.foretold());
        x.station(0, NONE);
        is(NONE, x.foretold());
    }

    @Says("till all QUEUES are empty and none is ON, nothing being told any more")
    static void p43_emptyAndNeverDone() {
        is(0, x.foretold());
        shots(x, 10);
        is(0, x.foretold());
        x.queue(0, 0);
        is(2, x.foretold());
        x.floor(1);
        is(1, x.foretold());
        x.floor(1);
        is(0, x.foretold());
        // An ANIMATOR that works no HALVES, and none.
        x = new PuppetFilm();
        tell("hold 1;");
        x.queue(1, 0);
        is(NONE, x.foretold());
        x.station(1, x.animator(0));
        is(NONE, x.foretold());
        x.station(1, x.animator(1));
        is(2, x.foretold());
    }

    @Says("it takes from now on till all QUEUES are empty and none is ON")
    static void p43_fromTheMidst() {
        shots(x, 20, 10);
        x.set(1, 0, 5);
        x.queue(0, 0);
        x.queue(0, 1);
        // 5 and 2, then 1 and 1; each HALF that goes by is one less.
        for (int due = 9; due > 0; due--) {
            is(due, x.foretold());
            is(due, x.foretold());
            x.floor(1);
        }
        is(0, x.foretold());
    }

    @Says("it takes from now on till all QUEUES are empty and none is ON")
    static void p43_fromTheMidstOfAWeek() {
        tell("hold 100;");
        x.set(1, 0, 0);
        x.animator(2);
        x.animator(0);
        x.queue(0, 0);
        x.wait(28);
        x.station(0, 0);
        x.floor(2);
        // Two of ten HALVES were 28 and 29; then come two in each WEEK from 42 on, the last of them 85.
        is(20, x.told(0, 4));
        is(56, x.foretold());
        x.station(0, 1);
        is(NONE, x.foretold());
        x.station(0, 0);
        is(56, x.foretold());
        x.floor(56);
        is(85, x.when(0, 99));
        is(0, x.foretold());
    }

    @Says("FORETOLD; NONE: it isn't done in 2,000.")
    static void p43_overTheWeeks() {
        tell("hold 142;");
        x.set(1, 0, 0);
        x.set(0, 0, 1);
        x.station(0, x.animator(1));
        x.queue(0, 0);
        // One HALF in each WEEK: the first of it; 142 frames end in WEEK 142, behind 141 times 14 and 1.
        is(1975, x.foretold());
        x.wait(1);
        is(1974, x.foretold());
        x.wait(12);
        is(1962, x.foretold());
        x.wait(1);
        is(1975, x.foretold());
        // 144 frames would need 143 times 14 and 1.
        x = new PuppetFilm();
        tell("hold 144;");
        x.set(1, 0, 0);
        x.set(0, 0, 1);
        x.station(0, x.animator(1));
        x.queue(0, 0);
        is(NONE, x.foretold());
        x.shoot(0, 1);
        is(1989, x.foretold());
    }

    @Says("0 PUPPETS, 1 SHOTS, 2 ROWS, 3 today's HALF, 4 bytes of the TAPE, 5 how often DRIFT was MEASURED; NONE for others.")
    static void p44_sixWhatsAndNoOthers() {
        for (int what : new int[] {-1, 6, 7, LEAST, MOST}) {
            answersOnly(NONE, FloorEdgesTest::busy, x -> x.count(what));
        }
        busy(x);
        x.puppet();
        x.feed(0, 0, 0, 0, 0);
        x.feed(0, 0, 0, 0, 0);
        x.row(0, 0, 0);
        x.row(0, 0, 0);
        x.row(0, 0, 0);
        x.measure(3, 9, 1);
        are(new int[] {1, 4, 3, 2, 40, 1}, (x, what) -> x.count(what));
    }
}
