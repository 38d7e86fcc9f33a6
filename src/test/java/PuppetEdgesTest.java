import java.io.IOException;

/** The edges of part 1: the object itself, PUPPETS, JOINTS, FEET, KITS, POSES and SOUNDS (promises 1 to 6). */
public final class PuppetEdgesTest extends Edges {
    private static final int[] SIDEWAYS = {
        0, 383, 707, 924, 1000, 924, 707, 383, 0, -383, -707, -924, -1000, -924, -707, -383};

    public static void main(String[] args) throws IOException {
        run(PuppetEdgesTest.class);
    }

    private static void none(PuppetFilm x) {
    }

    private static void one(PuppetFilm x) {
        x.puppet();
    }

    private static void eight(PuppetFilm x) {
        for (int p = 0; p < 8; p++) {
            x.puppet();
        }
    }

    /** Two PUPPETS: one of two JOINTS, one of three, with a SHOT that moves them. */
    private static void two(PuppetFilm x) {
        x.puppet();
        x.joint(0, NONE, -8, 8, 10, 1);
        x.joint(0, 0, -8, 8, 10, 1);
        x.puppet();
        x.joint(1, NONE, -8, 8, 10, 1);
        x.joint(1, 0, -8, 8, 10, 1);
        x.joint(1, 1, -8, 8, 10, 1);
        tell(x, "move 0.0 3, 0.1 -2, 1.2 4 in 3; say 1 abc at 0;");
    }

    private static void full(PuppetFilm x) {
        two(x);
        for (int j = 2; j < 12; j++) {
            x.joint(0, j - 1, -j, j, 1, 1);
        }
    }

    // The head and the face.

    @Says("An object is used for at most 512 calls after it has been made")
    static void head_the512thCallAnswersAsAllOthers() {
        for (int call = 1; call < 512; call++) {
            x.wait(1000);
        }
        is(512000, x.wait(1000));
        PuppetFilm fed = new PuppetFilm();
        for (int call = 1; call < 511; call++) {
            fed.puppet();
        }
        fed.feed('h' << 24 | 'o' << 16 | 'l' << 8 | 'd', '8' << 24 | ';' << 16, 0, 0, 0);
        is(0, fed.shot(6));
    }

    @Says({"public static final int NONE = -1;", "public static final int OFF = -1000000;"})
    static void face_constants() {
        is(-1, PuppetFilm.NONE);
        is(-1000000, PuppetFilm.OFF);
    }

    @Says("`OFF = -1000000`: No STEP, where one is told that may be below 0.")
    static void face_offIsNoStepAndNoLean() {
        two(x);
        is(-1000000, x.step(0, 3, 0, 0));
        is(-1000000, x.lean(0, 3, 0));
    }

    @Says("No PUPPETS, SHOTS, ROWS, nothing shot; HALF 0.")
    static void p01_newObjectIsEmpty() {
        are(new int[] {0, 0, 0, 0, 0, 0}, (x, what) -> x.count(what));
        is(NONE, x.check());
        is(NONE, x.fault());
        is(0, x.clear());
        is(0, x.foretold());
        are(new int[] {NONE, NONE, NONE, NONE, NONE, NONE, NONE, NONE}, (x, set) -> x.stands(set));
        are(new int[] {NONE, NONE, NONE}, (x, unit) -> x.on(unit, 0));
        refuses(INDEX, PuppetEdgesTest::none, x -> x.kit(0, 0));
        refuses(NO_SUCH, PuppetEdgesTest::none, x -> x.told(0, 0));
        refuses(ARGUMENT, PuppetEdgesTest::none, x -> x.worked(0));
    }

    @Says("No PUPPETS, SHOTS, ROWS, nothing shot; HALF 0.")
    static void p01_objectsShareNothing() {
        two(x);
        x.sound(0, 9);
        x.set(0, 0, 77);
        x.wait(9);
        PuppetFilm other = new PuppetFilm();
        is(0, other.count(0));
        is(0, other.count(1));
        is(0, other.count(3));
        is(1, other.sound(0, 1));
        is(10, other.set(0, 0, 1));
    }

    // PUPPETS.

    @Says({"PUPPETS, numbered from 0 on, 8 at most", "A PUPPET: its number; -1: there are 8."})
    static void p02_puppetsFrom0OnEightAtMost() {
        for (int p = 0; p < 8; p++) {
            is(p, x.puppet());
            is(p + 1, x.count(0));
        }
        is(-1, x.puppet());
        is(-1, x.puppet());
        is(8, x.count(0));
        answersOnly(-1, PuppetEdgesTest::eight, PuppetFilm::puppet);
    }

    @Says("PUPPETS, numbered from 0 on, 8 at most")
    static void p02_theEighthIsAsGoodAsTheFirst() {
        eight(x);
        is(0, x.joint(7, NONE, -1, 1, 1, 1));
        is(0, x.kit(7, 3));
        is(0, tell("move 7.0 1 in 1;say 7 z at 0;"));
        is(128, x.told(0, 1));
        is(1, x.step(0, 0, 7, 0));
        is(8, x.mouth(0, 0, 7));
    }

    // JOINTS.

    @Says({"have JOINTS, numbered from 0 on, 12 at most", "its number; -1: there are 12."})
    static void p03_jointsFrom0OnTwelveAtMost() {
        one(x);
        one(x);
        for (int j = 0; j < 12; j++) {
            is(j, x.joint(0, NONE, 0, 0, 0, 0));
        }
        is(-1, x.joint(0, NONE, 0, 0, 0, 0));
        is(-1, x.joint(0, 11, -32, 32, 100, 100));
        is(0, x.joint(1, NONE, 0, 0, 0, 0));
        is(0, tell("move 0.11 0 in 1;"));
        is(2007, faultOf(x, "move 0.12 0 in 1;"));
        answersOnly(-1, PuppetEdgesTest::full, x -> x.joint(0, NONE, -1, 1, 1, 1));
        answersOnly(-1, PuppetEdgesTest::full, x -> x.joint(0, 11, -1, 1, 1, 1));
    }

    @Says("IndexOutOfBoundsException: no such PUPPET (so below)")
    static void p03_noSuchPuppet() {
        refusesAll(new int[] {0, -1, LEAST, MOST}, INDEX, PuppetEdgesTest::none, (x, p) -> x.joint(p, NONE, 0, 0, 0, 0));
        refusesAll(new int[] {2, -1, LEAST, MOST}, INDEX, PuppetEdgesTest::two, (x, p) -> x.joint(p, NONE, 0, 0, 0, 0));
        refusesAll(new int[] {8, -1, LEAST, MOST}, INDEX, PuppetEdgesTest::eight, (x, p) -> x.joint(p, NONE, 0, 0, 0, 0));
        refusesAll(new int[] {8, -1}, INDEX, PuppetEdgesTest::eight, (x, p) -> x.joint(p, 5, 5, 5, 500, 500));
    }

    @Says("a PARENT (an earlier JOINT of the PUPPET, or none)")
    static void p03_parentIsAnEarlierJointOrNone() {
        bounds(-1, 1, ARGUMENT, PuppetEdgesTest::two, (x, parent) -> x.joint(0, parent, 0, 0, 0, 0));
        bounds(-1, 2, ARGUMENT, PuppetEdgesTest::two, (x, parent) -> x.joint(1, parent, 0, 0, 0, 0));
        bounds(-1, -1, ARGUMENT, PuppetEdgesTest::one, (x, parent) -> x.joint(0, parent, 0, 0, 0, 0));
        refusesAll(new int[] {-2, 12, 13, LEAST, MOST}, ARGUMENT, PuppetEdgesTest::full,
                (x, parent) -> x.joint(0, parent, 0, 0, 0, 0));
    }

    @Says("LOW (-32 to 0)")
    static void p03_lowIsFromMinus32To0() {
        bounds(-32, 0, ARGUMENT, PuppetEdgesTest::two, (x, low) -> x.joint(0, NONE, low, 0, 0, 0));
        bounds(-32, 0, ARGUMENT, PuppetEdgesTest::two, (x, low) -> x.joint(0, NONE, low, 32, 100, 100));
        one(x);
        x.joint(0, NONE, -32, 0, 0, 0);
        x.joint(0, NONE, 0, 0, 0, 0);
        is(0, tell("move 0.0 -32 in 1;"));
        is(NONE, x.breach(0, 0));
        is(1, tell("move 0.1 -1 in 1;"));
        is(1, x.breach(1, 2));
    }

    @Says("HIGH (0 to 32)")
    static void p03_highIsFrom0To32() {
        bounds(0, 32, ARGUMENT, PuppetEdgesTest::two, (x, high) -> x.joint(0, NONE, 0, high, 0, 0));
        bounds(0, 32, ARGUMENT, PuppetEdgesTest::two, (x, high) -> x.joint(0, NONE, -32, high, 100, 100));
        one(x);
        x.joint(0, NONE, 0, 32, 0, 0);
        x.joint(0, NONE, 0, 0, 0, 0);
        is(0, tell("move 0.0 32 in 1;"));
        is(NONE, x.breach(0, 0));
        is(1, tell("move 0.1 1 in 1;"));
        is(1, x.breach(1, 2));
    }

    @Says("a LENGTH and a MASS (0 to 100 each)")
    static void p03_lengthIsFrom0To100() {
        bounds(0, 100, ARGUMENT, PuppetEdgesTest::two, (x, length) -> x.joint(0, NONE, 0, 0, length, 0));
        bounds(0, 100, ARGUMENT, PuppetEdgesTest::two, (x, length) -> x.joint(0, 1, 0, 0, length, 100));
        one(x);
        x.joint(0, NONE, -32, 32, 100, 1);
        x.joint(0, NONE, -32, 32, 0, 1);
        is(0, tell("move 0.0 4,0.1 4 in 1;"));
        is(100000, x.lean(0, 0, 0));
    }

    @Says("a LENGTH and a MASS (0 to 100 each)")
    static void p03_massIsFrom0To100() {
        bounds(0, 100, ARGUMENT, PuppetEdgesTest::two, (x, mass) -> x.joint(0, NONE, 0, 0, 0, mass));
        bounds(0, 100, ARGUMENT, PuppetEdgesTest::two, (x, mass) -> x.joint(0, 1, 0, 0, 100, mass));
        one(x);
        x.joint(0, NONE, -32, 32, 1, 100);
        x.joint(0, NONE, -32, 32, 1, 0);
        is(0, tell("move 0.0 4,0.1 4 in 1;"));
        is(100000, x.lean(0, 0, 0));
    }

    @Says("IllegalArgumentException: one of these is none such.")
    static void p03_eachOneAloneIsRefused() {
        refuses(ARGUMENT, PuppetEdgesTest::two, x -> x.joint(0, 2, -8, 8, 1, 1));
        refuses(ARGUMENT, PuppetEdgesTest::two, x -> x.joint(0, 0, 1, 8, 1, 1));
        refuses(ARGUMENT, PuppetEdgesTest::two, x -> x.joint(0, 0, -8, -1, 1, 1));
        refuses(ARGUMENT, PuppetEdgesTest::two, x -> x.joint(0, 0, -8, 8, 101, 1));
        refuses(ARGUMENT, PuppetEdgesTest::two, x -> x.joint(0, 0, -8, 8, 1, -1));
        refuses(ARGUMENT, PuppetEdgesTest::two, x -> x.joint(0, LEAST, MOST, LEAST, MOST, LEAST));
    }

    // FEET.

    @Says("FEET of a PUPPET: from LEFT to RIGHT (-200 to 200; both 0 at first)")
    static void p04_feetAreFromMinus200To200() {
        bounds(-200, 200, ARGUMENT, PuppetEdgesTest::two, (x, left) -> feet(x, left, 200));
        bounds(-200, 200, ARGUMENT, PuppetEdgesTest::two, (x, right) -> feet(x, -200, right));
        refuses(ARGUMENT, PuppetEdgesTest::two, x -> feet(x, 201, 201));
        refuses(ARGUMENT, PuppetEdgesTest::two, x -> feet(x, -201, -201));
        refuses(ARGUMENT, PuppetEdgesTest::two, x -> feet(x, LEAST, MOST));
    }

    @Says("IllegalArgumentException: LEFT above RIGHT, or one is none such.")
    static void p04_leftAboveRight() {
        for (int v : new int[] {-200, -1, 0, 1, 200}) {
            PuppetFilm film = after(PuppetEdgesTest::two);
            film.feet(0, v, v);
            is(v == 0 ? 4 : 0, film.state(tell(film, "hold 1;"), 0, 0));
            if (v > -200) {
                refuses(ARGUMENT, PuppetEdgesTest::two, x -> feet(x, v, v - 1));
            }
        }
        refuses(ARGUMENT, PuppetEdgesTest::two, x -> feet(x, 200, -200));
    }

    @Says("FEET of a PUPPET: from LEFT to RIGHT (-200 to 200; both 0 at first)")
    static void p04_bothAre0AtFirst() {
        one(x);
        x.joint(0, NONE, -8, 8, 1, 1);
        is(0, tell("move 0.0 1 in 1;move 0.0 0 in 1;move 0.0 -1 in 1;"));
        is(0, x.state(0, 0, 0));
        is(4, x.state(0, 1, 0));
        is(0, x.state(0, 2, 0));
    }

    @Says("IndexOutOfBoundsException: no such PUPPET (so below)")
    static void p04_noSuchPuppet() {
        refusesAll(new int[] {2, 7, 8, -1, LEAST, MOST}, INDEX, PuppetEdgesTest::two, (x, p) -> {
            x.feet(p, 0, 0);
            return 0;
        });
        refuses(INDEX, PuppetEdgesTest::none, x -> feet(x, 0, 0));
        refuses(INDEX, PuppetEdgesTest::none, x -> feet(x, 1, 0));
    }

    private static int feet(PuppetFilm x, int left, int right) {
        x.feet(0, left, right);
        return 0;
    }

    // KITS.

    @Says({"KIT of a PUPPET: 0 to 3 (0 at first)", "KIT: what it was. IllegalArgumentException: it is none such."})
    static void p05_kitIsFrom0To3AndTellsWhatItWas() {
        bounds(0, 3, ARGUMENT, PuppetEdgesTest::two, (x, kit) -> x.kit(1, kit));
        eight(x);
        are(new int[] {0, 0, 0, 0, 0, 0, 0, 0}, (x, p) -> x.kit(p, 3));
        are(new int[] {3, 3, 3, 3, 3, 3, 3, 3}, (x, p) -> x.kit(p, p / 2));
        are(new int[] {0, 0, 1, 1, 2, 2, 3, 3}, (x, p) -> x.kit(p, p / 2));
        are(new int[] {0, 0, 1, 1, 2, 2, 3, 3}, (x, p) -> x.kit(p, 0));
    }

    @Says("IndexOutOfBoundsException: no such PUPPET (so below)")
    static void p05_noSuchPuppet() {
        refusesAll(new int[] {2, 8, -1, LEAST, MOST}, INDEX, PuppetEdgesTest::two, (x, p) -> x.kit(p, 0));
        refusesAll(new int[] {0, -1}, INDEX, PuppetEdgesTest::none, (x, p) -> x.kit(p, 4));
    }

    // POSES.

    @Says("A POSE has a STEP for each JOINT (0 at first; in SHOTS that are told ahead of it, too).")
    static void t1_stepOfAJointToldBehindTheShotIs0() {
        two(x);
        is(OFF, x.step(0, 2, 0, 2));
        is(OFF, x.step(0, 2, 2, 0));
        x.joint(0, 1, -8, 8, 10, 1);
        is(0, x.step(0, 0, 0, 2));
        is(0, x.step(0, 2, 0, 2));
        x.puppet();
        x.joint(2, NONE, 0, 0, 0, 0);
        is(0, x.step(0, 2, 2, 0));
        is(NONE, x.breach(0, 0));
    }

    @Says("A POSE has a STEP for each JOINT (0 at first; in SHOTS that are told ahead of it, too).")
    static void t1_aJointToldBehindTheShotHangsAndLeansInIt() {
        one(x);
        x.joint(0, NONE, -8, 8, 10, 1);
        tell("move 0.0 4 in 1;");
        is(10000, x.lean(0, 0, 0));
        x.joint(0, 0, -8, 8, 5, 2);
        is(10000 + 2 * 15000, x.lean(0, 0, 0));
        x.joint(0, NONE, -8, 8, 5, 2);
        is(40000, x.lean(0, 0, 0));
    }

    @Says("by 16 what is left (0 to 15, also below 0)")
    static void t1_directionGoesRoundAt16() {
        simple(-32, 32);
        for (int step = -32; step <= 32; step += 1) {
            if (x.count(1) == 11) {
                x = new PuppetFilm();
                simple(-32, 32);
            }
            int shot = tell("move 0.0 " + step + " in 1;");
            is(10 * SIDEWAYS[Math.floorMod(step, 16)], x.lean(shot, 0, 0));
        }
    }

    @Says("of 0 to 15 these: 0, 383, 707, 924, 1000, 924, 707, 383, 0, -383, -707, -924, -1000, -924, -707, -383.")
    static void t1_theNumberOfEachDirection() {
        one(x);
        x.joint(0, NONE, -32, 32, 1, 1);
        tell("move 0.0 15 in 15;move 0.0 0 in 15;move 0.0 -15 in 15;");
        for (int d = 1; d < 16; d++) {
            is(SIDEWAYS[d], x.lean(0, d - 1, 0));
            is(SIDEWAYS[16 - d], x.lean(0, 29 + d, 0));
        }
        is(0, x.lean(0, 29, 0));
    }

    @Says("DIRECTION of a JOINT: its STEP and those of all JOINTS above it together")
    static void t1_directionOfTwelveJointsInOneLine() {
        one(x);
        StringBuilder all = new StringBuilder("move 0.0 32");
        for (int j = 0; j < 12; j++) {
            x.joint(0, j - 1, -32, 32, j == 11 ? 1 : 0, j == 11 ? 1 : 0);
            all.append(j > 0 ? ",0." + j + " 32" : "");
        }
        // 12 times 32 is 0 by 16; 12 times 31 is 372, which leaves 4; 12 times -31 leaves 12.
        is(0, tell(all + " in 1;"));
        is(0, x.lean(0, 0, 0));
        is(1, tell(all.toString().replace("32", "31") + " in 1;"));
        is(1000, x.lean(1, 0, 0));
        is(2, tell(all.toString().replace("32", "-31") + " in 1;"));
        is(-1000, x.lean(2, 0, 0));
    }

    @Says("DIRECTION of a JOINT: its STEP and those of all JOINTS above it together")
    static void t1_directionIsNotOfThoseBesideOrBelow() {
        one(x);
        x.joint(0, NONE, -32, 32, 1, 1);
        x.joint(0, 0, -32, 32, 10, 1);
        x.joint(0, 0, -32, 32, 100, 1);
        x.joint(0, NONE, -32, 32, 0, 1);
        tell("move 0.1 1 in 1;move 0.3 4 in 1;move 0.0 4 in 1;");
        is(3830, x.lean(0, 0, 0));
        is(3830, x.lean(0, 1, 0));
        is(1000 + (1000 + 9240) + (1000 + 100000), x.lean(0, 2, 0));
    }

    @Says("END of a JOINT: that of its PARENT (0 without one) and its LENGTH times the number for its DIRECTION")
    static void t1_greatestAndLeastLean() {
        one(x);
        for (int j = 0; j < 12; j++) {
            x.joint(0, j - 1, -32, 32, 100, 100);
        }
        tell("move 0.0 4 in 1;move 0.0 -4 in 1;move 0.0 0 in 1;");
        // ENDS of 100,000 to 1,200,000, each 100 times.
        is(780000000, x.lean(0, 0, 0));
        is(-780000000, x.lean(0, 1, 0));
        is(0, x.lean(0, 2, 0));
        x.feet(0, -200, 200);
        is(0, x.state(0, 0, 0));
        is(0, x.state(0, 1, 0));
        is(4, x.state(0, 2, 0));
    }

    @Says("END of a JOINT: that of its PARENT (0 without one)")
    static void t1_jointsWithoutParentBeginAt0() {
        one(x);
        for (int j = 0; j < 12; j++) {
            x.joint(0, NONE, -32, 32, 100, 100);
        }
        tell("move 0.0 4,0.11 4 in 1;");
        is(20000000, x.lean(0, 0, 0));
    }

    @Says("if LEAN is not below LEFT times 1,000 times all MASS, and not above RIGHT times 1,000 times all MASS")
    static void t1_standsAtLeftAndAtRightThemselves() {
        one(x);
        x.joint(0, NONE, -8, 8, 20, 3);
        x.joint(0, NONE, -8, 8, 20, 1);
        // LEAN is 60,000 and -60,000, all MASS 4: 15 times 1,000 times 4.
        tell("move 0.0 4 in 1;move 0.0 -4 in 1;");
        x.feet(0, 0, 15);
        is(4, x.state(0, 0, 0));
        x.feet(0, 15, 20);
        is(4, x.state(0, 0, 0));
        x.feet(0, 0, 14);
        is(0, x.state(0, 0, 0));
        x.feet(0, 16, 20);
        is(0, x.state(0, 0, 0));
        x.feet(0, -15, 0);
        is(4, x.state(0, 1, 0));
        x.feet(0, -20, -15);
        is(4, x.state(0, 1, 0));
        x.feet(0, -14, 0);
        is(0, x.state(0, 1, 0));
        x.feet(0, -20, -16);
        is(0, x.state(0, 1, 0));
    }

    @Says("if LEAN is not below LEFT times 1,000 times all MASS, and not above RIGHT times 1,000 times all MASS")
    static void t1_standsAtTheGreatestFeet() {
        one(x);
        x.joint(0, NONE, -8, 8, 100, 0);
        x.joint(0, 0, -8, 8, 100, 100);
        tell("move 0.0 4 in 1;move 0.0 -4 in 1;");
        x.feet(0, -200, 200);
        is(4, x.state(0, 0, 0));
        is(4, x.state(0, 1, 0));
        x.joint(0, 1, -8, 8, 1, 1);
        is(0, x.state(0, 0, 0));
        is(0, x.state(0, 1, 0));
    }

    @Says("if LEAN is not below LEFT times 1,000 times all MASS, and not above RIGHT times 1,000 times all MASS")
    static void t1_withoutMassOrJointsItStandsAnywhere() {
        x.puppet();
        x.puppet();
        x.joint(1, NONE, -8, 8, 100, 0);
        x.feet(0, 5, 9);
        x.feet(1, -9, -5);
        tell("move 1.0 4 in 1;");
        is(4, x.state(0, 0, 0));
        is(4, x.state(0, 0, 1));
        is(0, x.lean(0, 0, 0));
        is(0, x.lean(0, 0, 1));
    }

    // SOUNDS.

    @Says({"a MOUTH (1 to 9) for each letter a to z: at first 1 for a, 2 for b and so on up to 9 for i, 1 for j, and again",
        "SOUND of a letter (0 for a): what it was."})
    static void p06_mouthsOfTheLettersGoRoundAt9() {
        are(new int[] {1, 2, 3, 4, 5, 6, 7, 8, 9, 1, 2, 3, 4, 5, 6, 7, 8, 9, 1, 2, 3, 4, 5, 6, 7, 8}, (x, v) -> x.sound(v, 9));
        are(new int[] {9, 9, 9, 9, 9, 9, 9, 9, 9, 9, 9, 9, 9, 9, 9, 9, 9, 9, 9, 9, 9, 9, 9, 9, 9, 9}, (x, v) -> x.sound(v, 1));
    }

    @Says("a MOUTH (1 to 9) for each letter a to z: at first 1 for a, 2 for b and so on up to 9 for i, 1 for j, and again")
    static void p06_mouthsInFramesGoRoundToo() {
        one(x);
        tell("say 0 abcdefghijklm at 0;say 0 nopqrstuvwxyz at 26;hold 52;");
        for (int f = 0; f < 52; f++) {
            is(f / 2 % 9 + 1, x.mouth(0, f, 0));
        }
    }

    @Says("IllegalArgumentException: no such letter, MOUTH.")
    static void p06_lettersAndMouthsThatThereAreNot() {
        bounds(0, 25, ARGUMENT, PuppetEdgesTest::two, (x, letter) -> x.sound(letter, 5));
        bounds(1, 9, ARGUMENT, PuppetEdgesTest::two, (x, mouth) -> x.sound(0, mouth));
        bounds(1, 9, ARGUMENT, PuppetEdgesTest::two, (x, mouth) -> x.sound(25, mouth));
    }

    @Says("MOUTHS in frames are by SOUNDS as they are now.")
    static void p06_framesToldAheadFollowTheSounds() {
        two(x);
        is(1, x.mouth(0, 0, 1));
        is(2, x.mouth(0, 2, 1));
        is(1, x.sound(0, 9));
        is(9, x.mouth(0, 0, 1));
        is(9, x.mouth(0, 1, 1));
        is(2, x.mouth(0, 2, 1));
        is(9, x.sound(0, 1));
        is(1, x.mouth(0, 0, 1));
    }
}
