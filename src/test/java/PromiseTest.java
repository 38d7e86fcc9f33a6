import java.util.NoSuchElementException;

/** Each promise of the document by itself: ordinary inputs, the edges it names, wrong inputs. */
public final class PromiseTest {
    private static final int NONE = PuppetFilm.NONE;
    private static final int OFF = PuppetFilm.OFF;
    private static final Class<NoSuchElementException> NO_SUCH = NoSuchElementException.class;
    private static final Class<IndexOutOfBoundsException> INDEX = IndexOutOfBoundsException.class;
    private static final Class<IllegalArgumentException> ARGUMENT = IllegalArgumentException.class;
    private static final Class<IllegalStateException> STATE = IllegalStateException.class;

    private static int checks;
    private static int wrong;
    private static int promise;
    private static PuppetFilm x;

    interface Call {
        void run();
    }

    private static void is(int want, int got) {
        checks++;
        if (want != got) {
            wrong++;
            StackTraceElement at = new Throwable().getStackTrace()[1];
            System.out.println("promise " + promise + ", line " + at.getLineNumber() + ": " + got + ", due is " + want);
        }
    }

    private static void is(boolean want, boolean got) {
        checks++;
        if (want != got) {
            wrong++;
            StackTraceElement at = new Throwable().getStackTrace()[1];
            System.out.println("promise " + promise + ", line " + at.getLineNumber() + ": " + got + ", due is " + want);
        }
    }

    private static void refuses(Class<? extends RuntimeException> want, Call call) {
        checks++;
        String got = "nothing";
        try {
            call.run();
        } catch (RuntimeException e) {
            got = e.getClass().getName();
        }
        if (!got.equals(want.getName())) {
            wrong++;
            StackTraceElement at = new Throwable().getStackTrace()[1];
            System.out.println("promise " + promise + ", line " + at.getLineNumber() + ": throws " + got + ", due is " + want.getName());
        }
    }

    private static void begin(int number) {
        promise = number;
        x = new PuppetFilm();
    }

    private static void feedText(String text) {
        for (int at = 0; at < text.length(); at += 20) {
            int[] n = new int[5];
            for (int i = 0; i < 20; i++) {
                n[i / 4] = n[i / 4] << 8 | (at + i < text.length() ? text.charAt(at + i) & 255 : 0);
            }
            x.feed(n[0], n[1], n[2], n[3], n[4]);
        }
    }

    private static int tell(String text) {
        feedText(text);
        return x.shot(text.length());
    }

    /** A FAULT as its kind times 1,000 and its place; a SHOT's number without. */
    private static int faultOf(String text) {
        int answer = tell(text);
        return answer >= 0 ? answer : (answer + 10) * 1000 + x.fault();
    }

    /** A PUPPET of one JOINT, of length 10 and mass 1. */
    private static int simple(int low, int high) {
        int p = x.puppet();
        x.joint(p, NONE, low, high, 10, 1);
        return p;
    }

    private static String times(int n, String s) {
        return s.repeat(n);
    }

    public static void main(String[] args) {
        newObject();
        puppets();
        texts();
        grammar();
        frames();
        swaps();
        units();
        plans();
        bumps();
        halves();
        paints();
        floors();
        floorRules();
        foretells();
        counts();
        System.out.println(checks + " checks, " + wrong + " wrong");
        if (wrong != 0) {
            System.exit(1);
        }
    }

    private static void newObject() {
        begin(1);
        for (int what = 0; what <= 5; what++) {
            is(0, x.count(what));
        }
        is(NONE, x.fault());
        is(NONE, x.check());
        is(0, x.clear());
        is(0, x.foretold());
        for (int unit = 0; unit < 3; unit++) {
            is(NONE, x.on(unit, 0));
            is(0, x.on(unit, 2));
            is(10, x.set(0, unit, 10));
            is(NONE, x.station(unit, NONE));
        }
        for (int set = 0; set < 8; set++) {
            is(NONE, x.stands(set));
            is(1, x.set(1, set, 1));
        }
        is(-1, NONE);
        is(-1000000, OFF);
    }

    private static void puppets() {
        begin(2);
        for (int p = 0; p < 8; p++) {
            is(p, x.puppet());
        }
        is(-1, x.puppet());
        is(8, x.count(0));

        begin(3);
        refuses(INDEX, () -> x.joint(0, NONE, 0, 0, 0, 0));
        x.puppet();
        refuses(INDEX, () -> x.joint(-1, NONE, 0, 0, 0, 0));
        refuses(INDEX, () -> x.joint(1, -5, 9, 0, 0, 0));
        is(0, x.joint(0, NONE, -32, 32, 100, 100));
        is(1, x.joint(0, 0, 0, 0, 0, 0));
        refuses(ARGUMENT, () -> x.joint(0, 2, 0, 0, 0, 0));
        refuses(ARGUMENT, () -> x.joint(0, -2, 0, 0, 0, 0));
        refuses(ARGUMENT, () -> x.joint(0, NONE, -33, 0, 0, 0));
        refuses(ARGUMENT, () -> x.joint(0, NONE, 1, 0, 0, 0));
        refuses(ARGUMENT, () -> x.joint(0, NONE, 0, -1, 0, 0));
        refuses(ARGUMENT, () -> x.joint(0, NONE, 0, 33, 0, 0));
        refuses(ARGUMENT, () -> x.joint(0, NONE, 0, 0, -1, 0));
        refuses(ARGUMENT, () -> x.joint(0, NONE, 0, 0, 101, 0));
        refuses(ARGUMENT, () -> x.joint(0, NONE, 0, 0, 0, -1));
        refuses(ARGUMENT, () -> x.joint(0, NONE, 0, 0, 0, 101));
        for (int j = 2; j < 12; j++) {
            is(j, x.joint(0, j - 1, 0, 0, 0, 0));
        }
        is(-1, x.joint(0, 11, 0, 0, 0, 0));
        refuses(ARGUMENT, () -> x.joint(0, 12, 0, 0, 0, 0));

        begin(4);
        simple(-8, 8);
        is(0, tell("move 0.0 4 in 1;move 0.0 -4 in 1;"));
        refuses(INDEX, () -> x.feet(1, 0, 0));
        refuses(INDEX, () -> x.feet(-1, 1, 0));
        refuses(ARGUMENT, () -> x.feet(0, 1, 0));
        refuses(ARGUMENT, () -> x.feet(0, -201, 0));
        refuses(ARGUMENT, () -> x.feet(0, 0, 201));
        x.feet(0, -200, 200);
        is(4, x.state(0, 0, 0));
        x.feet(0, -10, 9);
        is(0, x.state(0, 0, 0));
        is(4, x.state(0, 1, 0));
        x.feet(0, -9, 10);
        is(4, x.state(0, 0, 0));
        is(0, x.state(0, 1, 0));
        refuses(ARGUMENT, () -> x.feet(0, 11, 10));
        is(4, x.state(0, 0, 0));

        begin(5);
        x.puppet();
        is(0, x.kit(0, 3));
        is(3, x.kit(0, 1));
        refuses(ARGUMENT, () -> x.kit(0, 4));
        refuses(ARGUMENT, () -> x.kit(0, -1));
        refuses(INDEX, () -> x.kit(1, 0));
        refuses(INDEX, () -> x.kit(-1, 9));
        is(1, x.kit(0, 0));

        begin(6);
        for (int letter = 0; letter < 26; letter++) {
            is(letter % 9 + 1, x.sound(letter, 9));
        }
        is(9, x.sound(25, 1));
        is(1, x.sound(25, 2));
        refuses(ARGUMENT, () -> x.sound(-1, 1));
        refuses(ARGUMENT, () -> x.sound(26, 1));
        refuses(ARGUMENT, () -> x.sound(25, 0));
        refuses(ARGUMENT, () -> x.sound(25, 10));
        is(2, x.sound(25, 2));
    }

    private static void texts() {
        begin(7);
        for (int n = 1; n <= 20; n++) {
            is(20 * n, x.feed(-1, Integer.MIN_VALUE, 0, 1, Integer.MAX_VALUE));
        }
        is(NONE, x.feed(1, 2, 3, 4, 5));
        is(400, x.count(4));
        is(-9, x.shot(400));
        is(0, x.fault());
        is(0, x.count(4));
        // The highest byte of a number comes first.
        x.feed('h' << 24 | 'o' << 16 | 'l' << 8 | 'd', '3' << 24 | ';' << 16, 0, 0, 0);
        is(0, x.shot(6));
        is(3, x.told(0, 0));

        begin(8);
        refuses(ARGUMENT, () -> x.shot(1));
        refuses(ARGUMENT, () -> x.shot(-1));
        is(-6, x.shot(0));
        feedText("hold 5;");
        refuses(ARGUMENT, () -> x.shot(21));
        is(20, x.count(4));
        is(0, x.shot(7));
        is(0, x.count(4));
        is(-9, tell("hold 5 "));
        is(0, x.count(4));
        for (int s = 1; s < 12; s++) {
            is(s, tell("hold 1;"));
        }
        feedText("hold 1;");
        refuses(STATE, () -> x.shot(7));
        refuses(ARGUMENT, () -> x.shot(21));
        refuses(STATE, () -> x.shot(0));
        is(20, x.count(4));
        is(12, x.count(1));

        begin(9);
        is(NONE, x.fault());
        is(-8, tell("hold  0;"));
        is(6, x.fault());
        refuses(ARGUMENT, () -> x.shot(5));
        is(6, x.fault());
        is(0, tell("hold 1;"));
        is(NONE, x.fault());
        is(-9, tell(";"));
        is(0, x.fault());

        begin(10);
        refuses(NO_SUCH, () -> x.told(0, 0));
        for (int p = 0; p < 8; p++) {
            simple(-8, 8);
        }
        is(0, tell("hold 3;move 1.0 2 in 2;tie 2;free 3;rig 4 on;say 7 hi at 400;hold 2;repeat 2[rig 5 on;hold 1;];"));
        is(9, x.told(0, 0));
        is(2 + 4 + 8 + 16 + 32 + 128, x.told(0, 1));
        is(128, x.told(0, 2));
        is(0, x.told(0, 3));
        x.set(2, 0, 7);
        is(7, x.told(0, 3));
        is(0, x.told(0, 4));
        x.shoot(0, 4);
        is(4, x.told(0, 4));
        is(4, x.told(0, 5));
        x.paint(0, 0, 7, true);
        is(1, x.told(0, 5));
        refuses(ARGUMENT, () -> x.told(0, 6));
        refuses(ARGUMENT, () -> x.told(0, -1));
        refuses(NO_SUCH, () -> x.told(1, 9));
        refuses(NO_SUCH, () -> x.told(-1, 0));
    }

    private static void grammar() {
        begin(8);
        x.puppet();
        x.puppet();
        for (int j = 0; j < 11; j++) {
            x.joint(0, NONE, 0, 0, 0, 0);
        }
        // What may stand.
        is(0, faultOf("  hold  200 ;hold 200;  "));
        is(1, faultOf("hold1;move0.0-0,0 . 10 - 32,0.3 4in1both;camera pan 9999in400slow;"));
        is(2, faultOf("say 0at at400;say 1 abcdefghijklmnopqrst at 0;rig 1on;rig 0 off;tie01;free 0 ; move 0.0 0 in 200 even;"));
        is(3, faultOf("repeat 1[repeat 20 [ ] ; hold 1 ;] ;camera tilt 0 in 1;camera track 0000 in 0001 soft;"));
        // 1, at the first byte of what can't stand there.
        is(1000, faultOf("Hold 5;"));
        is(1000, faultOf("hol 5;"));
        is(1005, faultOf("hold x;"));
        is(1006, faultOf("hold 5"));
        is(1008, faultOf("hold 5  "));
        is(1007, faultOf("hold 5 5;"));
        is(1007, faultOf("hold 5;;"));
        is(1007, faultOf("hold 5;]"));
        is(1004, faultOf("hold\t5;"));
        is(1005, faultOf("hold -5;"));
        is(1007, faultOf("move 0 0 3 in 4;"));
        is(1008, faultOf("move 0.0;"));
        is(1010, faultOf("move 0.0 3;"));
        is(1011, faultOf("move 0.0 3 inn 4;"));
        is(1016, faultOf("move 0.0 3 in 4 slowly;"));
        is(1011, faultOf("move 0.0 3,in 4;"));
        is(1010, faultOf("move 0.0 --3 in 4;"));
        is(1006, faultOf("say 0 abcdefghijklmnopqrstu at 0;"));
        is(1006, faultOf("say 0 3 at 0;"));
        is(1008, faultOf("say 0 ab;"));
        is(1006, faultOf("rig 0 one;"));
        is(1007, faultOf("camera roll 1 in 3;"));
        is(1009, faultOf("repeat 2 hold 1;"));
        is(1018, faultOf("repeat 2 [hold 1;]"));
        is(1016, faultOf("repeat 2 [hold 1]"));
        is(1017, faultOf("repeat 2 [hold 1;"));
        is(1000, faultOf("" + (char) 200));
        // 2, at the number's first byte.
        is(2005, faultOf("hold 0;"));
        is(2005, faultOf("hold 201;"));
        is(2005, faultOf("hold 99999999999999999999;"));
        is(2005, faultOf("move 2.0 3 in 4;"));
        is(2007, faultOf("move 1.0 3 in 4;"));
        is(2007, faultOf("move 0.11 3 in 4;"));
        is(2009, faultOf("move 0.0 33 in 4;"));
        is(2011, faultOf("move 0.0 - 33 in 4;"));
        is(2014, faultOf("move 0.0 3 in 0;"));
        is(2014, faultOf("move 0.0 3 in 201;"));
        is(2011, faultOf("say 0 a at 401;"));
        is(2004, faultOf("say 2 a at 0;"));
        is(2004, faultOf("tie 2;"));
        is(2005, faultOf("free 2;"));
        is(2004, faultOf("rig 2 on;"));
        is(2011, faultOf("camera pan 10000 in 3;"));
        is(2016, faultOf("camera pan 1 in 0;"));
        is(2016, faultOf("camera pan 1 in 401;"));
        is(2007, faultOf("repeat 0 [];"));
        is(2007, faultOf("repeat 21 [];"));
        // The first from the left.
        is(1000, faultOf("x;hold 0;"));
        is(2005, faultOf("hold 0;x;"));
        depths();
    }

    private static void depths() {
        begin(8);
        x.puppet();
        // 3
        is(0, faultOf(times(59, "tie 0;") + "hold 1;"));
        is(3360, faultOf(times(60, "tie 0;") + "hold 1;"));
        is(1360, faultOf(times(60, "tie 0;") + "hola 1;"));
        is(3363, faultOf("repeat 1[" + times(59, "tie 0;") + "tie 0;];"));
        is(1, faultOf("hold 1;" + times(4, "repeat 2[") + times(4, "];")));
        is(3036, faultOf(times(4, "repeat 2[") + "repeat 0 [" + times(5, "];")));
        is(2, faultOf(times(4, "repeat 1[") + "hold 3;" + times(4, "];") + times(4, "repeat 1[") + times(4, "];")));
        // 4, at the length
        is(4000, faultOf(""));
        is(4003, faultOf("   "));
        is(4006, faultOf("tie 0;"));
        is(4018, faultOf("camera pan 1 in 3;"));
        is(4025, faultOf("hold 200;hold 200;hold 1;"));
        is(3, faultOf("hold 200;hold 200;"));
        is(4, faultOf("repeat 20 [hold 20;];"));
        is(4021, faultOf("repeat 20 [hold 21;];"));
        // 1 + 20 + 20 * 98 + 18 + 1 = 2,000 S done.
        String done = "repeat 20[repeat 7[" + times(14, "tie 0;") + "];];hold 1;";
        is(5, faultOf(done));
        is(6, faultOf(done + times(18, "tie 0;")));
        is(4000 + done.length() + 19 * 6, faultOf(done + times(19, "tie 0;")));
        is(4000 + 12 * 4 + 8, faultOf(times(4, "repeat 20 [ ") + times(4, "];")));
    }

    private static void frames() {
        begin(11);
        refuses(NO_SUCH, () -> x.step(0, 0, 0, 0));
        simple(-8, 8);
        x.joint(0, 0, -8, 8, 20, 2);
        is(0, tell("move 0.0 8 in 4;move 0.0 -3,0.1 1,0.1 5 in 2;hold 1;"));
        int[] due = {2, 4, 6, 8, 2, -3, -3};
        for (int f = 0; f < 7; f++) {
            is(due[f], x.step(0, f, 0, 0));
        }
        is(0, x.step(0, 3, 0, 1));
        is(2, x.step(0, 4, 0, 1));
        is(5, x.step(0, 5, 0, 1));
        is(OFF, x.step(0, 7, 0, 0));
        is(OFF, x.step(0, -1, 0, 0));
        is(OFF, x.step(0, 0, 1, 0));
        is(OFF, x.step(0, 0, -1, 0));
        is(OFF, x.step(0, 0, 0, 2));
        is(OFF, x.step(0, 0, 0, -1));
        refuses(NO_SUCH, () -> x.step(1, 0, 0, 0));
        refuses(NO_SUCH, () -> x.step(-1, 0, 0, 0));
        x.joint(0, 1, 0, 0, 0, 0);
        is(0, x.step(0, 6, 0, 2));
        x.puppet();
        x.joint(1, NONE, 0, 0, 0, 0);
        is(0, x.step(0, 6, 1, 0));
        eases();
        repeats();
        mouths();
        cameras();
        balance();
    }

    private static void eases() {
        begin(11);
        simple(-32, 32);
        String[] eases = {"", "even", "slow", "soft", "both"};
        int[][] up = {{6, 12, 19, 25, 32}, {6, 12, 19, 25, 32}, {1, 5, 11, 20, 32}, {11, 20, 26, 30, 32}, {2, 10, 21, 29, 32}};
        int[][] down = {{-7, -13, -20, -26, -32}, {-7, -13, -20, -26, -32}, {-2, -6, -12, -21, -32},
            {-12, -21, -27, -31, -32}, {-3, -11, -22, -30, -32}};
        for (int e = 0; e < 5; e++) {
            int s = tell("move 0.0 32 in 5 " + eases[e] + ";");
            int t = tell("move 0.0 -32 in 5 " + eases[e] + ";");
            for (int f = 0; f < 5; f++) {
                is(up[e][f], x.step(s, f, 0, 0));
                is(down[e][f], x.step(t, f, 0, 0));
            }
        }
        int r = tell("repeat 2[move 0.0 4 in 2;move 0.0 -1 in 1;];");
        int[] due = {2, 4, -1, 1, 4, -1};
        for (int f = 0; f < 6; f++) {
            is(due[f], x.step(r, f, 0, 0));
        }
    }

    private static void repeats() {
        begin(11);
        simple(-32, 32);
        is(0, tell(times(4, "repeat 2[") + "move 0.0 1 in 1;move 0.0 0 in 1;" + times(4, "];") + "move 0.0 5 in 1;"));
        is(33, x.told(0, 0));
        for (int f = 0; f < 32; f++) {
            is(1 - f % 2, x.step(0, f, 0, 0));
        }
        is(5, x.step(0, 32, 0, 0));
        is(1, tell("move 0.0 3 in 1;repeat 3[];repeat 2[hold 1;repeat 1[move 0.0 -1 in 1;];];hold 1;"));
        int[] due = {3, 3, -1, -1, -1, -1};
        for (int f = 0; f < 6; f++) {
            is(due[f], x.step(1, f, 0, 0));
        }
    }

    private static void mouths() {
        begin(12);
        refuses(NO_SUCH, () -> x.mouth(0, 0, 0));
        x.puppet();
        x.puppet();
        is(0, tell("say 1 az at 2;say 1 c at 3;hold 7;say 0 b at 6;say 0 b at 400;"));
        int[] due = {0, 0, 1, 3, 3, 8, 0};
        for (int f = 0; f < 7; f++) {
            is(due[f], x.mouth(0, f, 1));
        }
        is(0, x.mouth(0, 5, 0));
        is(2, x.mouth(0, 6, 0));
        x.sound(25, 5);
        is(5, x.mouth(0, 5, 1));
        is(NONE, x.mouth(0, 7, 0));
        is(NONE, x.mouth(0, -1, 0));
        is(NONE, x.mouth(0, 0, 2));
        is(NONE, x.mouth(0, 0, -1));
        refuses(NO_SUCH, () -> x.mouth(-1, 0, 0));
        // As they come: the say of the second time counts above the one behind it in the first.
        is(1, tell("repeat 2[say 0 a at 0;say 0 b at 1;];hold 4;"));
        is(1, x.mouth(1, 0, 0));
        is(2, x.mouth(1, 1, 0));
        is(2, x.mouth(1, 2, 0));
        is(0, x.mouth(1, 3, 0));
    }

    private static void cameras() {
        begin(13);
        refuses(NO_SUCH, () -> x.camera(0, 0, 0));
        is(0, tell("camera pan 10 in 4;hold 2;camera pan 0 in 2;camera tilt 9999 in 400 soft;hold 3;"));
        int[] due = {2, 5, 2, 0, 0};
        for (int f = 0; f < 5; f++) {
            is(due[f], x.camera(0, f, 0));
        }
        is(0, x.camera(0, 1, 1));
        is(49, x.camera(0, 2, 1));
        is(99, x.camera(0, 3, 1));
        is(0, x.camera(0, 4, 2));
        is(NONE, x.camera(0, 5, 0));
        is(NONE, x.camera(0, -1, 0));
        is(NONE, x.camera(0, 0, 3));
        is(NONE, x.camera(0, 0, -1));
        refuses(NO_SUCH, () -> x.camera(1, 0, 0));
        is(1, tell("camera track 100 in 2;camera track 9 in 3;repeat 3[camera pan 5 in 3;hold 1;];"));
        is(3, x.camera(1, 0, 2));
        is(9, x.camera(1, 2, 2));
        is(1, x.camera(1, 0, 0));
        is(2, x.camera(1, 1, 0));
        is(3, x.camera(1, 2, 0));
        // Nothing of the SHOT ahead is left.
        is(2, tell("hold 9;"));
        is(0, x.camera(2, 8, 0));
        is(0, x.camera(2, 8, 2));
    }

    private static void balance() {
        begin(14);
        refuses(NO_SUCH, () -> x.state(0, 0, 0));
        simple(-8, 8);
        x.puppet();
        is(0, tell("tie 0;hold 1;rig 0 on;move 0.0 4 in 1;free 0;hold 1;rig 0 off;tie 1;hold 1;"));
        is(5, x.state(0, 0, 0));
        is(3, x.state(0, 1, 0));
        is(2, x.state(0, 2, 0));
        is(0, x.state(0, 3, 0));
        is(4, x.state(0, 2, 1));
        is(5, x.state(0, 3, 1));
        is(NONE, x.state(0, 4, 0));
        is(NONE, x.state(0, -1, 0));
        is(NONE, x.state(0, 0, 2));
        is(NONE, x.state(0, 0, -1));
        refuses(NO_SUCH, () -> x.state(1, 0, 0));

        begin(15);
        refuses(NO_SUCH, () -> x.lean(0, 0, 0));
        x.puppet();
        x.joint(0, NONE, -32, 32, 100, 3);
        x.joint(0, 0, -32, 32, 50, 2);
        x.joint(0, NONE, -32, 32, 7, 1);
        is(0, tell("move 0.0 4,0.1 1,0.2 -2 in 1;move 0.0 -1,0.1 -1,0.2 15 in 1;move 0.0 16,0.1 -32 in 1;move 0.0 17 in 1;"));
        is(3 * 100000 + 2 * (100000 + 50 * 924) - 7 * 707, x.lean(0, 0, 0));
        is(-3 * 38300 - 2 * (38300 + 50 * 707) - 7 * 383, x.lean(0, 1, 0));
        is(-7 * 383, x.lean(0, 2, 0));
        is(3 * 38300 + 2 * (38300 + 50 * 383) - 7 * 383, x.lean(0, 3, 0));
        is(OFF, x.lean(0, 4, 0));
        is(OFF, x.lean(0, -1, 0));
        is(OFF, x.lean(0, 0, 1));
        is(OFF, x.lean(0, 0, -1));
        refuses(NO_SUCH, () -> x.lean(-1, 0, 0));
        for (int d = 0; d < 16; d++) {
            int[] due = {0, 383, 707, 924, 1000, 924, 707, 383, 0, -383, -707, -924, -1000, -924, -707, -383};
            PuppetFilm was = x;
            x = new PuppetFilm();
            simple(-32, 32);
            tell("move 0.0 " + d + " in 1;move 0.0 -" + (16 - d) + " in 1;");
            is(10 * due[d], x.lean(0, 0, 0));
            is(10 * due[d], x.lean(0, 1, 0));
            x = was;
        }
        breachAndFall();
        alikes();
    }

    private static void breachAndFall() {
        begin(16);
        refuses(NO_SUCH, () -> x.breach(0, 0));
        simple(-8, 8);
        x.joint(0, NONE, -3, 4, 0, 0);
        simple(-2, 2);
        is(0, tell("move 0.0 8,0.1 4,1.0 2 in 1;move 0.0 -8,0.1 -3,1.0 -2 in 1;"));
        is(NONE, x.breach(0, 0));
        is(NONE, x.breach(0, 1));
        is(NONE, x.breach(0, 2));
        is(1, tell("hold 3;move 1.0 -3,0.1 -4 in 1;"));
        is(3, x.breach(1, 0));
        is(0, x.breach(1, 1));
        is(1, x.breach(1, 2));
        is(2, tell("move 1.0 9 in 3;"));
        is(0, x.breach(2, 0));
        is(1, x.breach(2, 1));
        is(0, x.breach(2, 2));
        refuses(ARGUMENT, () -> x.breach(0, 3));
        refuses(ARGUMENT, () -> x.breach(0, -1));
        refuses(NO_SUCH, () -> x.breach(3, 9));

        begin(17);
        refuses(NO_SUCH, () -> x.fall(0, 0));
        simple(-8, 8);
        simple(-8, 8);
        simple(-8, 8);
        x.feet(2, 1, 2);
        is(0, tell("hold 2;tie 0;move 0.0 4 in 1;move 1.0 4 in 1;free 0;hold 1;"));
        is(3, x.fall(0, 0));
        is(1, x.fall(0, 1));
        x.feet(1, 0, 10);
        is(4, x.fall(0, 0));
        is(0, x.fall(0, 1));
        x.feet(0, 0, 10);
        is(NONE, x.fall(0, 0));
        is(NONE, x.fall(0, 1));
        is(1, tell("free 2;hold 1;"));
        is(0, x.fall(1, 0));
        is(2, x.fall(1, 1));
        refuses(ARGUMENT, () -> x.fall(0, 2));
        refuses(ARGUMENT, () -> x.fall(0, -1));
        refuses(NO_SUCH, () -> x.fall(2, 0));
    }

    private static void alikes() {
        begin(18);
        refuses(NO_SUCH, () -> x.alike(0, 0, 0));
        simple(-8, 8);
        x.puppet();
        is(0, tell("hold 2;move 0.0 1 in 1;move 0.0 0 in 1;tie 1;hold 1;free 1;rig 1 on;hold 1;rig 1 off;"
                + "camera tilt 1 in 1;hold 1;camera tilt 0 in 1;hold 1;say 1 aj at 8;hold 5;"));
        is(true, x.alike(0, 0, 0));
        is(true, x.alike(0, 0, 1));
        is(false, x.alike(0, 0, 2));
        is(true, x.alike(0, 3, 0));
        is(false, x.alike(0, 3, 4));
        is(false, x.alike(0, 3, 5));
        is(false, x.alike(0, 6, 3));
        is(true, x.alike(0, 7, 3));
        is(false, x.alike(0, 7, 8));
        is(true, x.alike(0, 8, 9));
        is(true, x.alike(0, 9, 10));
        x.sound(9, 2);
        is(false, x.alike(0, 9, 10));
        is(true, x.alike(0, 12, 1));
        refuses(INDEX, () -> x.alike(0, 13, 0));
        refuses(INDEX, () -> x.alike(0, 0, 13));
        refuses(INDEX, () -> x.alike(0, -1, 0));
        refuses(NO_SUCH, () -> x.alike(1, 99, 0));
    }

    private static void swaps() {
        begin(19);
        refuses(NO_SUCH, () -> x.swap(0, 9, 9));
        simple(-8, 8);
        simple(-8, 3);
        simple(-8, 8);
        x.joint(2, NONE, 0, 0, 0, 0);
        x.puppet();
        x.joint(3, NONE, -8, 8, 10, 0);
        simple(-8, 8);
        is(0, tell("rig 0 on;move 0.0 4 in 2;tie 0;say 0 a at 1;hold 1;tie 4;"));
        refuses(INDEX, () -> x.swap(0, 5, 0));
        refuses(INDEX, () -> x.swap(0, 0, 5));
        refuses(INDEX, () -> x.swap(0, -1, 0));
        refuses(NO_SUCH, () -> x.swap(1, 0, 0));
        is(-1, x.swap(0, 1, 0));
        is(-1, x.swap(0, 1, 1));
        is(-2, x.swap(0, 0, 0));
        is(-2, x.swap(0, 0, 4));
        is(-3, x.swap(0, 0, 2));
        is(-4, x.swap(0, 0, 1));
        is(17, x.told(0, 1));
        is(1, x.swap(0, 0, 3));
        is(24, x.told(0, 1));
        is(8, x.told(0, 2));
        is(2, x.step(0, 0, 3, 0));
        is(0, x.step(0, 0, 0, 0));
        is(1, x.mouth(0, 1, 3));
        is(0, x.mouth(0, 1, 0));
        is(6, x.state(0, 0, 3));
        is(7, x.state(0, 2, 3));
        is(0, x.state(0, 2, 0) & 3);
        is(-5, x.swap(0, 3, 0));
        x.feet(0, 0, 9);
        is(-5, x.swap(0, 3, 0));
        x.feet(0, 0, 10);
        is(1, x.swap(0, 3, 0));
        is(4, x.step(0, 2, 0, 0));
        // Tied, it needs not stand; LOW itself bears.
        is(1, tell("tie 0;move 0.0 -8 in 1;move 0.0 3 in 1;"));
        x.feet(1, 0, 0);
        is(1, x.swap(1, 0, 1));
        is(2, tell("tie 0;move 0.0 -9 in 1;"));
        is(-4, x.swap(2, 0, 1));
        // It falls in the first frame alone, before it is tied.
        int b = simple(-8, 8);
        int c = simple(-8, 8);
        x.feet(c, 0, 9);
        x.feet(b, 0, 10);
        is(3, tell("move " + b + ".0 4 in 1;tie " + b + ";hold 3;"));
        is(-5, x.swap(3, b, c));
        x.feet(c, 0, 10);
        is(1, x.swap(3, b, c));
        // As many JOINTS, but other PARENTS.
        int a = simple(-8, 8);
        x.joint(a, 0, 0, 0, 0, 0);
        is(4, tell("tie 2;hold 1;"));
        is(-3, x.swap(4, 2, a));
    }

    private static void units() {
        begin(20);
        refuses(ARGUMENT, () -> x.set(2, 0, 0));
        is(10, x.set(0, 0, 100));
        is(100, x.set(0, 0, 1));
        is(10, x.set(0, 2, 5));
        refuses(ARGUMENT, () -> x.set(0, 0, 0));
        refuses(ARGUMENT, () -> x.set(0, 0, 101));
        refuses(ARGUMENT, () -> x.set(0, 3, 1));
        refuses(ARGUMENT, () -> x.set(0, -1, 1));
        is(1, x.set(0, 0, 2));
        is(1, x.set(1, 7, 20));
        is(20, x.set(1, 7, 0));
        refuses(ARGUMENT, () -> x.set(1, 7, 21));
        refuses(ARGUMENT, () -> x.set(1, 7, -1));
        refuses(ARGUMENT, () -> x.set(1, 8, 1));
        refuses(ARGUMENT, () -> x.set(1, -1, 1));
        is(0, x.set(1, 7, 3));
        tell("hold 1;");
        is(0, x.set(2, 0, 7));
        is(7, x.set(2, 0, 3));
        refuses(ARGUMENT, () -> x.set(2, 0, 8));
        refuses(ARGUMENT, () -> x.set(2, 0, -1));
        refuses(ARGUMENT, () -> x.set(2, 1, 0));
        refuses(ARGUMENT, () -> x.set(2, -1, 0));
        refuses(ARGUMENT, () -> x.set(3, 0, 1));
        refuses(ARGUMENT, () -> x.set(-1, 0, 1));
        is(3, x.set(2, 0, 3));

        begin(21);
        refuses(NO_SUCH, () -> x.lasts(0, 0));
        x.puppet();
        x.puppet();
        x.puppet();
        tell("hold 20;");
        tell("hold 21;tie 0;");
        tell("hold 7;tie 0;tie 1;tie 2;");
        is(2, x.lasts(0, 0));
        is(3, x.lasts(1, 1));
        is(3, x.lasts(2, 2));
        x.set(0, 2, 7);
        is(3, x.lasts(2, 2));
        x.set(0, 2, 100);
        is(1, x.lasts(2, 2));
        x.set(0, 2, 1);
        is(21, x.lasts(2, 2));
        is(3, x.lasts(2, 0));
        refuses(ARGUMENT, () -> x.lasts(0, 3));
        refuses(ARGUMENT, () -> x.lasts(0, -1));
        refuses(NO_SUCH, () -> x.lasts(3, 3));

        begin(22);
        refuses(NO_SUCH, () -> x.clash(0, 0));
        x.puppet();
        x.puppet();
        x.puppet();
        tell("hold 1;tie 0;");
        tell("hold 1;tie 1;say 2 a at 0;");
        tell("hold 1;say 0 a at 9;");
        is(true, x.clash(0, 1));
        is(true, x.clash(0, 0));
        x.set(2, 1, 1);
        x.set(2, 2, 2);
        is(false, x.clash(0, 1));
        is(true, x.clash(0, 2));
        is(true, x.clash(1, 2));
        x.kit(2, 1);
        is(false, x.clash(1, 2));
        // One who says nothing needs no KIT.
        x.kit(1, 2);
        x.kit(0, 2);
        is(false, x.clash(1, 2));
        x.kit(2, 2);
        is(true, x.clash(2, 1));
        refuses(NO_SUCH, () -> x.clash(0, 3));
        refuses(NO_SUCH, () -> x.clash(-1, 0));
    }

    private static void plans() {
        begin(23);
        refuses(ARGUMENT, () -> x.best(1, 0, 0));
        x.puppet();
        for (int s = 0; s < 6; s++) {
            tell("hold " + (10 * s + 10) + ";");
            x.set(2, s, s);
        }
        refuses(ARGUMENT, () -> x.best(0, 0, 0));
        refuses(ARGUMENT, () -> x.best(64, 0, 0));
        refuses(ARGUMENT, () -> x.best(63, 0, 0));
        refuses(ARGUMENT, () -> x.best(-1, 0, 0));
        refuses(ARGUMENT, () -> x.best(1 << 31, 0, 0));
        refuses(ARGUMENT, () -> x.best(1, 6, 0));
        refuses(ARGUMENT, () -> x.best(1, -1, 0));
        int[] one = {3, 0, 1, 5};
        for (int what = 0; what < 4; what++) {
            is(one[what], x.best(8, what, 0));
        }
        is(5, x.best(8, 4, -9));
        is(5, x.best(8, 5, 99));
        is(NONE, x.best(8, 0, 1));
        is(NONE, x.best(8, 3, -1));
        // Of three, each alone in a UNIT; the first of all alike ways.
        int[][] three = {{0, 0, 1, 2}, {1, 1, 1, 3}, {2, 2, 1, 4}};
        for (int k = 0; k < 3; k++) {
            for (int what = 0; what < 4; what++) {
                is(three[k][what], x.best(7, what, k));
            }
        }
        is(4, x.best(7, 4, 0));
        is(9, x.best(7, 5, 0));
        // A faster UNIT is taken; what is told counts as it is now.
        x.set(0, 1, 100);
        is(1, x.best(8, 1, 0));
        is(2, x.best(8, 4, 0));
        x.set(0, 1, 10);
        is(0, x.best(8, 1, 0));
        // One SET: dressed once in a UNIT, and all one behind another, the shortest first.
        x.set(2, 1, 0);
        x.set(2, 2, 0);
        x.set(1, 0, 20);
        is(26, x.best(7, 4, 0));
        is(21 + 23 + 26, x.best(7, 5, 0));
        is(2, x.best(7, 0, 2));
        is(0, x.best(7, 1, 2));
        is(23, x.best(7, 2, 2));

        begin(24);
        refuses(NO_SUCH, () -> x.row(0, 3, -1));
        tell("hold 1;");
        refuses(ARGUMENT, () -> x.row(0, 3, 0));
        refuses(ARGUMENT, () -> x.row(0, -1, 0));
        refuses(ARGUMENT, () -> x.row(0, 0, -1));
        refuses(ARGUMENT, () -> x.row(0, 0, 100001));
        for (int n = 1; n <= 12; n++) {
            is(n, x.row(0, n % 3, n % 2 == 0 ? 0 : 100000));
        }
        is(-1, x.row(0, 0, 0));
        is(12, x.count(2));
        checks25();
    }

    private static void checks25() {
        begin(25);
        x.puppet();
        tell("hold 20;");
        tell("hold 20;tie 0;");
        tell("hold 20;tie 0;");
        tell("hold 20;");
        x.set(2, 1, 1);
        x.set(2, 2, 2);
        x.set(1, 2, 3);
        is(NONE, x.check());
        x.row(0, 0, 0);
        is(2, x.check());
        x.clear();
        x.row(0, 0, 1);
        is(NONE, x.check());
        // 3 is the END; the same SET needs no DRESS, another one does.
        x.row(3, 0, 3);
        is(NONE, x.check());
        x.row(2, 0, 7);
        is(10, x.check());
        x.set(1, 2, 2);
        is(NONE, x.check());
        x.row(1, 1, 8);
        is(15, x.check());
        x.clear();
        x.row(1, 0, 5);
        x.row(2, 1, 6);
        is(7, x.check());
        x.clear();
        x.row(1, 0, 5);
        x.row(2, 1, 7);
        x.row(3, 2, 3);
        is(NONE, x.check());
        x.row(1, 2, 0);
        is(13, x.check());
        // A UNIT's row ahead is the latest told, not the latest to begin.
        x.clear();
        x.row(0, 0, 50);
        x.row(3, 0, 1);
        is(6, x.check());

        begin(26);
        is(0, x.clear());
        tell("hold 1;");
        x.row(0, 0, 0);
        x.row(0, 0, 0);
        is(2, x.clear());
        is(0, x.count(2));
        is(NONE, x.check());
        is(1, x.row(0, 0, 5));
    }

    private static void bumps() {
        begin(27);
        refuses(NO_SUCH, () -> x.bump(0, 0, 1, 0));
        simple(-8, 8);
        simple(-8, 8);
        tell("move 0.0 4 in 4;hold 1;move 1.0 2 in 2;");
        int[][] due = {
            // frame, size, done, comes to, frame of BACK
            {6, 7, 0, 7, 4}, {4, 10, 1, 12, 4}, {3, 9, 1, 17, 0}, {4, 22, 1, 24, 4}, {4, 23, 2, 24, 4},
            {5, 1, 0, 2, 4}, {6, 1000, 2, 24, 4}, {5, 4, 0, 8, 4}, {5, 5, 1, 9, 4}, {0, 1, 1, 3, 0}};
        for (int[] d : due) {
            is(d[2], x.bump(0, d[0], d[1], 0));
            is(d[3], x.bump(0, d[0], d[1], 1));
            is(d[4], x.bump(0, d[0], d[1], 2));
        }
        x.set(1, 0, 0);
        is(14, x.bump(0, 4, 1000, 1));
        refuses(INDEX, () -> x.bump(0, 7, 0, 9));
        refuses(INDEX, () -> x.bump(0, -1, 1, 0));
        refuses(ARGUMENT, () -> x.bump(0, 0, 0, 0));
        refuses(ARGUMENT, () -> x.bump(0, 0, 1001, 0));
        refuses(ARGUMENT, () -> x.bump(0, 0, 1, 3));
        refuses(ARGUMENT, () -> x.bump(0, 0, 1, -1));
        refuses(NO_SUCH, () -> x.bump(1, 9, 0, 9));
        // Nobody is CAST: nobody is put anew.
        tell("hold 9;");
        is(2, x.bump(1, 3, 4, 0));
        is(0, x.bump(1, 3, 4, 1));
        x.set(1, 0, 1);
        is(1, x.bump(1, 3, 4, 0));
        is(4, x.bump(1, 3, 4, 1));
    }

    private static void halves() {
        begin(28);
        is(0, x.wait(0));
        is(1000, x.wait(1000));
        refuses(ARGUMENT, () -> x.wait(-1));
        refuses(ARGUMENT, () -> x.wait(1001));
        is(1001, x.wait(1));
        is(1001, x.count(3));

        begin(29);
        refuses(NO_SUCH, () -> x.shoot(0, 401));
        tell("hold 20;");
        tell("hold 200;hold 200;");
        refuses(ARGUMENT, () -> x.shoot(0, -1));
        refuses(ARGUMENT, () -> x.shoot(0, 401));
        is(0, x.shoot(0, 0));
        is(-1, x.shoot(0, 21));
        is(5, x.shoot(0, 5));
        is(-1, x.shoot(0, 16));
        is(20, x.shoot(0, 15));
        is(-1, x.shoot(0, 1));
        is(20, x.shoot(0, 0));
        is(400, x.shoot(1, 400));

        begin(30);
        refuses(NO_SUCH, () -> x.when(0, 0));
        tell("hold 6;");
        is(NONE, x.when(0, 0));
        x.shoot(0, 2);
        x.wait(3);
        x.shoot(0, 3);
        int[] due = {0, 0, 3, 3, 3, NONE};
        for (int f = 0; f < 6; f++) {
            is(due[f], x.when(0, f));
        }
        refuses(INDEX, () -> x.when(0, 6));
        refuses(INDEX, () -> x.when(0, -1));
        refuses(NO_SUCH, () -> x.when(1, 9));
        drifts();
    }

    private static void drifts() {
        begin(31);
        refuses(NO_SUCH, () -> x.measure(0, 9, 9999));
        tell("hold 3;");
        tell("hold 3;");
        is(-1, x.measure(0, 0, 5));
        x.shoot(0, 2);
        x.shoot(1, 3);
        refuses(INDEX, () -> x.measure(0, 3, 9999));
        refuses(INDEX, () -> x.measure(0, -1, 0));
        refuses(ARGUMENT, () -> x.measure(0, 2, 1001));
        refuses(ARGUMENT, () -> x.measure(0, 0, -1001));
        is(-1, x.measure(0, 2, 0));
        is(0, x.count(5));
        is(1, x.measure(0, 0, 1000));
        is(2, x.measure(1, 2, -1000));
        for (int n = 3; n <= 80; n++) {
            is(n, x.measure(0, 1, n));
        }
        is(-2, x.measure(0, 1, 5));
        is(-1, x.measure(0, 2, 5));
        is(80, x.count(5));
        is(80, x.mended(0, 1, 0));

        begin(32);
        refuses(NO_SUCH, () -> x.mended(0, 0, 0));
        tell("hold 12;");
        tell("hold 12;");
        x.shoot(0, 11);
        x.shoot(1, 1);
        x.wait(5);
        is(0, x.mended(0, 4, 99));
        x.measure(0, 2, 10);
        x.measure(0, 8, -5);
        x.measure(1, 0, 77);
        int[] due = {10, 10, 10, 7, 5, 2, 0, -3, -5, -5, -5, -5};
        for (int f = 0; f < 12; f++) {
            is(due[f], x.mended(0, f, 5));
            is(0, x.mended(0, f, 4));
        }
        is(0, x.mended(0, 5, Integer.MIN_VALUE));
        is(2, x.mended(0, 5, Integer.MAX_VALUE));
        x.wait(1);
        x.measure(0, 2, -2);
        x.measure(0, 2, 1);
        x.measure(0, 5, 100);
        is(1, x.mended(0, 2, 6));
        is(10, x.mended(0, 2, 5));
        is(100, x.mended(0, 5, 6));
        is(67, x.mended(0, 4, 6));
        is(2, x.mended(0, 5, 5));
        refuses(INDEX, () -> x.mended(0, 12, 0));
        refuses(INDEX, () -> x.mended(0, -1, 0));
        refuses(NO_SUCH, () -> x.mended(2, 0, 0));

        begin(33);
        refuses(NO_SUCH, () -> x.leap(0, 0));
        tell("hold 12;");
        is(0, x.leap(0, 0));
        x.shoot(0, 1);
        x.measure(0, 0, 1000);
        is(0, x.leap(0, 0));
        x.shoot(0, 5);
        is(0, x.leap(0, 0));
        x.wait(1);
        x.measure(0, 3, -1000);
        // 1000, 333, -334, -1000: 667 apart.
        is(667, x.leap(0, 1));
        is(0, x.leap(0, 0));
        x.measure(0, 4, 1000);
        is(2000, x.leap(0, 1));
        refuses(NO_SUCH, () -> x.leap(-1, 0));
    }

    private static void paints() {
        begin(34);
        refuses(NO_SUCH, () -> x.paint(0, 5, 0, true));
        tell("hold 6;");
        is(0, x.paint(0, 0, 5, false));
        is(2, x.paint(0, 1, 2, true));
        is(1, x.paint(0, 2, 3, true));
        is(3, x.paint(0, 0, 5, true));
        is(1, x.paint(0, 5, 5, false));
        is(5, x.paint(0, 0, 5, false));
        refuses(INDEX, () -> x.paint(0, 3, 2, true));
        refuses(INDEX, () -> x.paint(0, -1, 2, true));
        refuses(INDEX, () -> x.paint(0, 0, 6, true));
        refuses(INDEX, () -> x.paint(0, 6, 6, true));
        is(6, x.paint(0, 0, 5, true));
        refuses(NO_SUCH, () -> x.paint(1, 0, 0, true));

        begin(35);
        refuses(NO_SUCH, () -> x.dirty(0, 0));
        x.puppet();
        tell("hold 2;rig 0 on;hold 3;rig 0 off;hold 1;");
        is(2, x.dirty(0, 0));
        is(2, x.dirty(0, Integer.MIN_VALUE));
        is(4, x.dirty(0, 4));
        is(NONE, x.dirty(0, 5));
        is(NONE, x.dirty(0, Integer.MAX_VALUE));
        x.paint(0, 2, 3, true);
        is(4, x.dirty(0, 0));
        x.paint(0, 4, 4, true);
        is(NONE, x.dirty(0, 0));
        x.paint(0, 3, 3, false);
        is(3, x.dirty(0, -1));
        refuses(NO_SUCH, () -> x.dirty(1, 0));
    }

    private static void floors() {
        begin(36);
        refuses(ARGUMENT, () -> x.animator(-1));
        refuses(ARGUMENT, () -> x.animator(15));
        for (int a = 0; a < 6; a++) {
            is(a, x.animator(a % 2 == 0 ? 0 : 14));
        }
        is(-1, x.animator(3));
        refuses(ARGUMENT, () -> x.animator(15));

        begin(37);
        refuses(ARGUMENT, () -> x.station(0, 0));
        refuses(INDEX, () -> x.station(3, 0));
        refuses(INDEX, () -> x.station(-1, 0));
        x.animator(3);
        x.animator(3);
        is(NONE, x.station(0, 1));
        is(NONE, x.station(2, 1));
        is(1, x.station(0, 0));
        is(0, x.station(0, NONE));
        is(NONE, x.station(0, NONE));
        refuses(ARGUMENT, () -> x.station(0, 2));
        refuses(ARGUMENT, () -> x.station(0, -2));
        is(1, x.station(2, 1));

        begin(38);
        refuses(NO_SUCH, () -> x.queue(9, 0));
        for (int s = 0; s < 12; s++) {
            tell("hold 2;");
        }
        refuses(INDEX, () -> x.queue(3, 0));
        refuses(INDEX, () -> x.queue(-1, 0));
        is(1, x.queue(0, 0));
        is(-2, x.queue(0, 0));
        is(-2, x.queue(1, 0));
        x.shoot(11, 2);
        is(-3, x.queue(0, 11));
        x.shoot(0, 2);
        is(-2, x.queue(0, 0));
        for (int s = 1; s < 10; s++) {
            is(s + 1, x.queue(0, s));
        }
        is(-1, x.queue(0, 10));
        is(-1, x.queue(0, 0));
        is(-1, x.queue(0, 11));
        is(1, x.queue(1, 10));
        x.floor(1);
        is(8, x.on(0, 2));
        is(1, x.on(0, 0));
        is(-2, x.queue(0, 1));
        is(-3, x.queue(0, 0));

        begin(39);
        refuses(ARGUMENT, () -> x.floor(-1));
        refuses(ARGUMENT, () -> x.floor(101));
        is(0, x.floor(0));
        is(100, x.floor(100));
        is(103, x.wait(3));
        is(104, x.floor(1));
    }

    private static void floorRules() {
        begin(39);
        x.puppet();
        tell("hold 25;");
        tell("hold 9;tie 0;");
        x.animator(14);
        x.station(0, 0);
        x.set(2, 1, 1);
        x.set(1, 0, 2);
        x.queue(0, 0);
        x.queue(0, 1);
        promise = 40;
        is(NONE, x.on(0, 0));
        is(NONE, x.on(0, 1));
        is(2, x.on(0, 2));
        is(0, x.on(0, 3));
        refuses(INDEX, () -> x.on(3, 9));
        refuses(INDEX, () -> x.on(-1, 0));
        refuses(ARGUMENT, () -> x.on(0, 4));
        refuses(ARGUMENT, () -> x.on(0, -1));
        x.floor(1);
        is(0, x.on(0, 0));
        is(1, x.on(0, 1));
        is(1, x.on(0, 2));
        is(1, x.on(0, 3));
        promise = 41;
        is(NONE, x.stands(0));
        x.floor(1);
        is(0, x.stands(0));
        is(NONE, x.on(0, 1));
        is(0, x.told(0, 4));
        refuses(ARGUMENT, () -> x.stands(8));
        refuses(ARGUMENT, () -> x.stands(-1));
        promise = 42;
        is(0, x.worked(0));
        refuses(ARGUMENT, () -> x.worked(1));
        refuses(ARGUMENT, () -> x.worked(-1));
        x.floor(2);
        is(20, x.told(0, 4));
        is(2, x.worked(0));
        is(2, x.when(0, 9));
        is(3, x.when(0, 10));
        x.floor(1);
        is(25, x.told(0, 4));
        is(NONE, x.on(0, 0));
        is(NONE, x.stands(0));
        promise = 39;
        // The next one begins in the HALF behind; its SET is dressed then.
        x.floor(1);
        is(1, x.on(0, 0));
        is(0, x.stands(1));
        x.floor(1);
        is(NONE, x.on(0, 0));
        is(6, x.when(1, 8));
        is(NONE, x.on(0, 3));
        is(4, x.worked(0));
        x.wait(7);
        promise = 42;
        is(0, x.worked(0));
        weeks();
        holds();
        sets();
        changes();
    }

    private static void weeks() {
        begin(42);
        tell("hold 100;");
        tell("hold 100;");
        x.set(2, 1, 1);
        x.set(0, 0, 3);
        x.animator(5);
        x.station(0, 0);
        x.station(1, 0);
        x.queue(0, 0);
        x.queue(1, 1);
        // Dressed in HALF 0; then each UNIT takes one of the ANIMATOR's five, till they are gone.
        x.floor(3);
        is(4, x.worked(0));
        x.floor(1);
        is(5, x.worked(0));
        is(9, x.told(0, 4));
        is(20, x.told(1, 4));
        x.floor(10);
        is(0, x.worked(0));
        is(9, x.told(0, 4));
        x.floor(1);
        is(2, x.worked(0));
        is(14, x.when(0, 9));
        x.wait(14);
        is(0, x.worked(0));
        x.wait(1);
        x.station(0, NONE);
        x.floor(1);
        is(1, x.worked(0));
        is(12, x.told(0, 4));

        begin(39);
        // Many heads: at least one frame a HALF.
        for (int p = 0; p < 8; p++) {
            x.puppet();
        }
        tell("hold 3;tie 0;tie 1;tie 2;tie 3;tie 4;tie 5;tie 6;tie 7;");
        tell("hold 9;tie 0;tie 1;tie 2;");
        x.set(0, 0, 7);
        x.set(1, 0, 0);
        x.animator(14);
        x.station(0, 0);
        x.queue(0, 0);
        x.queue(0, 1);
        x.floor(1);
        is(1, x.told(0, 4));
        is(0, x.stands(0));
        x.floor(2);
        is(3, x.told(0, 4));
        is(NONE, x.on(0, 0));
        is(0, x.stands(0));
        x.floor(1);
        is(2, x.told(1, 4));
        is(3, x.when(1, 0));
    }

    private static void holds() {
        begin(39);
        x.puppet();
        x.puppet();
        x.puppet();
        tell("hold 9;tie 0;say 1 a at 0;");
        tell("hold 9;tie 0;");
        tell("hold 9;say 2 a at 0;");
        tell("hold 9;");
        for (int s = 0; s < 4; s++) {
            x.set(2, s, s);
        }
        x.animator(14);
        for (int u = 0; u < 3; u++) {
            x.station(u, 0);
        }
        x.queue(0, 0);
        x.queue(1, 1);
        x.queue(1, 2);
        x.queue(1, 3);
        x.floor(1);
        is(0, x.on(0, 0));
        is(3, x.on(1, 0));
        is(1, x.on(1, 3));
        is(2, x.on(1, 2));
        x.floor(1);
        is(9, x.told(0, 4) + x.told(3, 4) - 5);
        // UNIT 0 is free from HALF 3 on, UNIT 1 has SHOT 3 till then, and another KIT lets 2 begin.
        x.floor(1);
        is(NONE, x.on(0, 0));
        is(1, x.on(1, 0));
        is(2, x.on(1, 3));
    }

    private static void sets() {
        begin(39);
        for (int s = 0; s < 6; s++) {
            tell("hold 5;");
            x.set(2, s, s);
        }
        for (int u = 0; u < 3; u++) {
            x.queue(u, u);
        }
        x.floor(1);
        is(0, x.stands(0));
        is(1, x.stands(1));
        is(2, x.stands(2));
        // Three SETS STAND: a fourth one isn't begun to be dressed, though its SHOT is ON.
        x.set(2, 0, 3);
        x.floor(1);
        is(0, x.on(0, 0));
        is(NONE, x.on(0, 1));
        is(NONE, x.stands(3));
        // A SET that STANDS in another UNIT: its SHOT waits.
        x.animator(14);
        x.station(1, 0);
        x.set(2, 4, 0);
        x.queue(1, 4);
        x.floor(1);
        is(NONE, x.stands(1));
        is(NONE, x.on(1, 0));
        x.floor(1);
        is(NONE, x.on(1, 0));
        is(1, x.on(1, 2));
        // UNIT 0 came first in that HALF, and SET 3 could be dressed.
        is(0, x.stands(3));
        x.set(2, 5, 2);
        x.queue(0, 5);
        x.station(2, 0);
        x.floor(1);
        is(2, x.stands(2));
        is(NONE, x.on(2, 0));
    }

    private static void changes() {
        begin(40);
        tell("hold 5;");
        tell("hold 5;");
        x.set(2, 1, 4);
        x.set(1, 0, 5);
        x.set(1, 3, 2);
        x.animator(14);
        x.station(0, 0);
        x.queue(0, 0);
        x.floor(3);
        is(3, x.on(0, 1));
        // Another SET: what was being dressed is not any more, and that begins anew.
        x.set(2, 0, 3);
        is(NONE, x.on(0, 1));
        x.floor(1);
        is(1, x.on(0, 1));
        x.set(2, 0, 0);
        x.floor(4);
        is(4, x.on(0, 1));
        // DRESS as it is now: gone on for that long, it STANDS, and frames are shot in that HALF.
        x.set(1, 0, 4);
        x.floor(1);
        is(5, x.told(0, 4));
        is(8, x.when(0, 4));
        is(NONE, x.on(0, 0));
        is(NONE, x.stands(0));
        // All shot by hand while ON: it is ON no more in its next HALF, when its SET STANDS.
        x.queue(0, 1);
        x.floor(1);
        is(0, x.stands(4));
        x.shoot(1, 5);
        is(1, x.on(0, 0));
        x.floor(1);
        is(NONE, x.on(0, 0));
        is(NONE, x.stands(4));
        is(1, x.worked(0));
    }

    private static void foretells() {
        begin(43);
        is(0, x.foretold());
        tell("hold 25;");
        tell("hold 200;hold 200;");
        tell("hold 200;hold 200;");
        tell("hold 200;hold 200;");
        tell("hold 200;hold 200;");
        tell("hold 200;hold 200;");
        x.queue(0, 0);
        is(NONE, x.foretold());
        x.animator(14);
        is(NONE, x.foretold());
        x.station(0, 0);
        is(4, x.foretold());
        is(0, x.count(3));
        is(NONE, x.on(0, 0));
        is(0, x.told(0, 4));
        x.floor(3);
        is(1, x.foretold());
        x.floor(1);
        is(0, x.foretold());
        // One HALF of dressing, then 1,999 frames, one a HALF: 2,000; with one frame more it isn't done.
        for (int s = 1; s < 6; s++) {
            x.queue(0, s);
        }
        x.set(0, 0, 1);
        x.shoot(5, 1);
        is(2000, x.foretold());
        x.wait(1);
        is(2000, x.foretold());
        x.set(1, 0, 2);
        is(NONE, x.foretold());
        x.shoot(1, 1);
        is(2000, x.foretold());
        // The SHOT in the QUEUE is all shot: the HALF in which it goes out of it.
        begin(43);
        tell("hold 1;");
        x.queue(2, 0);
        x.shoot(0, 1);
        is(1, x.foretold());
        // One HALF a WEEK.
        begin(43);
        tell("hold 30;");
        x.animator(1);
        x.station(1, 0);
        x.queue(1, 0);
        is(29, x.foretold());
        x.wait(13);
        is(30, x.foretold());
        x.floor(30);
        is(0, x.foretold());
        is(42, x.when(0, 29));
    }

    private static void counts() {
        begin(44);
        is(NONE, x.count(6));
        is(NONE, x.count(-1));
        is(NONE, x.count(Integer.MAX_VALUE));
        x.puppet();
        feedText("hold 3;");
        is(20, x.count(4));
        x.shot(7);
        x.row(0, 0, 0);
        x.wait(4);
        x.shoot(0, 1);
        x.measure(0, 0, 0);
        x.feed(0, 0, 0, 0, 0);
        int[] due = {1, 1, 1, 4, 20, 1};
        for (int what = 0; what < 6; what++) {
            is(due[what], x.count(what));
        }
    }
}
