import java.io.IOException;

/** The edges of the TAPE, of the texts and of their FAULTS (promises 7 to 9, and how part 2 begins). */
public final class TextEdgesTest extends Edges {
    public static void main(String[] args) throws IOException {
        run(TextEdgesTest.class);
    }

    private static void none(PuppetFilm x) {
    }

    /** Two PUPPETS, of eleven JOINTS and of none. */
    private static void cast(PuppetFilm x) {
        x.puppet();
        x.puppet();
        for (int j = 0; j < 11; j++) {
            x.joint(0, NONE, -32, 32, 0, 0);
        }
    }

    private static void fed(PuppetFilm x) {
        cast(x);
        tell(x, "hold 3;tie 1;");
        tell(x, "hold 0;");
        feedText(x, "hold 7;               hold 8;          ");
    }

    private static void fullTape(PuppetFilm x) {
        cast(x);
        feedText(x, "hold 9;" + times(393, " "));
    }

    private static void twelveShots(PuppetFilm x) {
        cast(x);
        for (int s = 0; s < 12; s++) {
            tell(x, "hold " + (s + 1) + ";");
        }
        feedText(x, "hold 7;");
    }

    /** That a text is a SHOT. */
    private static void takes(String text) {
        is(0, faultOf(after(TextEdgesTest::cast), text));
    }

    /** That a text has this FAULT at the sign ^, which is not part of it. */
    private static void fails(int kind, String marked) {
        int place = marked.indexOf('^');
        String text = marked.substring(0, place) + marked.substring(place + 1);
        is(kind * 1000 + place, faultOf(after(TextEdgesTest::cast), text));
    }

    private static void lasts(int frames, String text) {
        PuppetFilm film = after(TextEdgesTest::cast);
        is(0, faultOf(film, text));
        is(frames, film.count(1) == 1 ? film.told(0, 0) : NONE);
    }

    /** A number in a text: from low to high it is taken, whatever 0 stand ahead of it; others are FAULT 2 at it. */
    private static void number(int low, int high, String ahead, String behind) {
        takes(ahead + low + behind);
        takes(ahead + high + behind);
        takes(ahead + "0000000000000" + low + behind);
        takes(ahead + "0000000000000" + high + behind);
        String[] none = {"" + (high + 1), "00" + (high + 1), "" + MOST, "2147483648", "4294967296", "" + (4294967296L + high),
            "18446744073709551617", "1" + times(40, "0"), times(60, "9")};
        for (String n : none) {
            fails(2, ahead + "^" + n + behind);
        }
        if (low > 0) {
            fails(2, ahead + "^" + (low - 1) + behind);
            fails(2, ahead + "^000" + (low - 1) + behind);
        }
        fails(1, ahead + "^x" + behind);
        fails(1, ahead + "^+" + low + behind);
        fails(1, ahead + "^");
    }

    // The TAPE.

    @Says("Twenty bytes come on the TAPE, of each number the highest first: how many there are")
    static void p07_highestByteFirst() {
        is(20, x.feed('h' << 24 | 'o' << 16 | 'l' << 8 | 'd', ' ' << 24 | '1' << 16 | '2' << 8 | '3',
                ';' << 24 | ' ' << 16 | 'h' << 8 | 'o', 'l' << 24 | 'd' << 16 | ' ' << 8 | '4', ';' << 24));
        is(0, x.shot(17));
        is(127, x.told(0, 0));
    }

    @Says("Twenty bytes come on the TAPE, of each number the highest first: how many there are")
    static void p07_anyNumberIsTaken() {
        int n = 0;
        for (int v : new int[] {LEAST, MOST, -1, 0, 1, 0x7f80ff00}) {
            n += 20;
            is(n, x.feed(v, v, v, v, v));
        }
        is(120, x.count(4));
        is(-9, x.shot(1));
        is(0, x.fault());
    }

    @Says("NONE, doing nothing, if there would be more than 400.")
    static void p07_fourHundredBytesAreFull() {
        for (int n = 1; n <= 20; n++) {
            is(20 * n, x.feed(n, n, n, n, n));
        }
        is(NONE, x.feed(1, 1, 1, 1, 1));
        is(NONE, x.feed(LEAST, MOST, 0, -1, 1));
        is(400, x.count(4));
        answersOnly(NONE, TextEdgesTest::fullTape, x -> x.feed(1, 2, 3, 4, 5));
        x.shot(0);
        is(20, x.feed(0, 0, 0, 0, 0));
    }

    // SHOTS.

    @Says("The first n bytes of the TAPE (empty then) are a SHOT: its number, or its FAULT less 10.")
    static void p08_theTapeIsEmptyThen() {
        feedText(x, "hold 7;hold 8;");
        is(0, x.shot(7));
        is(7, x.told(0, 0));
        is(0, x.count(4));
        feedText(x, "hold 7;hold 8;");
        is(1, x.shot(14));
        is(15, x.told(1, 0));
        is(0, x.count(4));
        feedText(x, "hold 7;hold 8;");
        is(-9, x.shot(13));
        is(0, x.count(4));
        is(2, x.count(1));
        is(20, x.feed(0, 0, 0, 0, 0));
    }

    @Says("its number, or its FAULT less 10.")
    static void p08_eachFaultLess10() {
        is(-9, tell("x"));
        is(-8, tell("hold 0;"));
        is(-7, tell(times(5, "repeat 1[")));
        is(-6, tell(""));
    }

    @Says("its number, or its FAULT less 10.")
    static void p08_aFaultLeavesNoShotAndNothingOfItsText() {
        cast(x);
        is(0, tell("tie 0;rig 1 on;say 0 a at 0;camera pan 9 in 9;move 0.0 9 in 9;"));
        is(-9, tell("tie 0;rig 1 on;say 0 a at 0;camera pan 9 in 9;move 0.0 9 in 9;repeat 2[x"));
        is(1, tell("hold 5;"));
        is(0, x.told(1, 1));
        is(0, x.told(1, 2));
        is(5, x.told(1, 0));
        is(0, x.camera(1, 4, 0));
        is(0, x.step(1, 4, 0, 0));
        is(0, x.mouth(1, 0, 0));
        is(4, x.state(1, 0, 0));
    }

    @Says("its number, or its FAULT less 10.")
    static void p08_eachTextBeginsAnew() {
        cast(x);
        // The S, the A, the frames and the S that are done of texts ahead do not count.
        String done = "repeat 20[repeat 7[" + times(14, "tie 0;") + "];];hold 1;";
        for (int s = 0; s < 4; s++) {
            is(s, tell("move " + times(60, "0.0 1,") + "0.1 " + s + " in 200;hold 200;"));
            is(s, x.step(s, 399, 0, 1));
            is(1, x.step(s, 399, 0, 0));
        }
        for (int s = 4; s < 7; s++) {
            is(s, tell(done));
        }
        is(7, tell("repeat 2[hold 1;hold 1;hold 1;];"));
        is(8, tell("move 0.0 1 in 1;move 0.0 2 in 1;move 0.0 3 in 1;hold 1;"));
        for (int f = 0; f < 4; f++) {
            is(Math.min(3, f + 1), x.step(8, f, 0, 0));
        }
    }

    @Says("IllegalArgumentException: n is not 0 to the TAPE's bytes")
    static void p08_nIsFrom0ToTheTapesBytes() {
        bounds(0, 0, ARGUMENT, TextEdgesTest::none, (x, n) -> x.shot(n));
        bounds(0, 40, ARGUMENT, TextEdgesTest::fed, (x, n) -> x.shot(n));
        bounds(0, 400, ARGUMENT, TextEdgesTest::fullTape, (x, n) -> x.shot(n));
        is(-6, after(TextEdgesTest::none).shot(0));
        is(-6, after(TextEdgesTest::fed).shot(0));
        // Bytes 0 behind the text, up to the twentieth, are on the TAPE, but can't stand in a text.
        feedText(x, "hold 7;");
        is(-9, x.shot(8));
        is(7, x.fault());
    }

    @Says("are texts of up to 400 bytes")
    static void t2_aTextOf400Bytes() {
        lasts(9, "hold 9;" + times(393, " "));
        lasts(1, times(393, " ") + "hold 1;");
        lasts(40, times(40, "hold   1; "));
        fails(1, "hold 1;" + times(392, " ") + "^;");
        fails(1, "hold 1;" + times(387, " ") + "hold 1^");
        fails(4, times(400, " ") + "^");
    }

    @Says({"SHOTS, numbered from 0 on, 12 at most", "IllegalStateException: there are 12."})
    static void p08_twelveShots() {
        for (int s = 0; s < 12; s++) {
            is(-8, tell("hold 0;"));
            is(s, tell("hold 1;"));
        }
        is(12, x.count(1));
        is(1, x.told(11, 0));
        refuses(STATE, TextEdgesTest::twelveShots, x -> x.shot(7));
        refuses(STATE, TextEdgesTest::twelveShots, x -> x.shot(0));
        refuses(STATE, TextEdgesTest::twelveShots, x -> x.shot(20));
        refuses(ARGUMENT, TextEdgesTest::twelveShots, x -> x.shot(21));
        refuses(ARGUMENT, TextEdgesTest::twelveShots, x -> x.shot(-1));
        // The TAPE is as it was: another feed comes behind.
        PuppetFilm film = after(TextEdgesTest::twelveShots);
        is(40, film.feed(0, 0, 0, 0, 0));
    }

    @Says("The place of the FAULT of the latest shot(); NONE without.")
    static void p09_placeOfTheLatestShot() {
        is(NONE, x.fault());
        is(-8, tell("hold 0;"));
        is(5, x.fault());
        is(5, x.fault());
        is(-9, tell(" ;"));
        is(1, x.fault());
        is(0, tell("hold 1;"));
        is(NONE, x.fault());
        is(-6, x.shot(0));
        is(0, x.fault());
        is(-7, tell(times(4, "repeat 1[") + "repeat"));
        is(36, x.fault());
    }

    @Says("The place of the FAULT of the latest shot(); NONE without.")
    static void p09_aRefusedShotIsNone() {
        refuses(ARGUMENT, TextEdgesTest::fed, x -> x.shot(41));
        PuppetFilm film = after(TextEdgesTest::fed);
        is(5, film.fault());
        is(NONE, after(TextEdgesTest::twelveShots).fault());
    }

    // Words, numbers, blanks.

    @Says("are texts of up to 400 bytes: { S \";\" }")
    static void t2_eachSEndsInASemicolon() {
        takes("hold 1;");
        takes("hold 1;hold 1;");
        fails(1, "hold 1^");
        fails(1, "hold 1 ^hold 1;");
        fails(1, "hold 1^,hold 1;");
        fails(1, "hold 1;^;");
        fails(1, "^;");
        fails(1, "hold 1;^,");
        fails(1, "hold 1;^]");
        fails(1, "hold 1;^[hold 1;];");
        fails(1, "hold 1;^7;");
    }

    @Says("Words: small letters, as many as stand there")
    static void t2_wordsAreAsManyLettersAsStandThere() {
        takes("hold1;");
        fails(1, "^holdx 1;");
        fails(1, "^hol d 1;");
        fails(1, "^Hold 1;");
        fails(1, "^HOLD 1;");
        fails(1, "^hol");
        fails(1, "^holdhold 1;");
        fails(1, "^`old 1;");
        fails(1, "^{old 1;");
        fails(1, "hold^");
        fails(1, "hold^;");
        fails(1, "hold^{1;");
        fails(1, "hold^`1;");
        fails(1, "move 0.0 1^im 1;");
        fails(1, "move 0.0 1^ins 1;");
        fails(1, "move 0.0 1 ^xin 1;");
        fails(1, "move 0.0 1^In 1;");
    }

    @Says("Words: small letters, as many as stand there")
    static void t2_eachWordThatBeginsAnS() {
        String[] words = {"hold", "move", "say", "tie", "free", "rig", "camera", "repeat"};
        for (String word : words) {
            fails(1, word + "^");
            fails(1, word + "^;");
            fails(1, "^" + word + "a;");
            fails(1, "^x" + word.substring(1) + " 0;");
            fails(1, "^" + word.substring(0, word.length() - 1) + "x 0;");
            fails(1, "^" + word.substring(1) + " 0;");
            fails(1, "^" + word.substring(0, word.length() - 1) + " 0;");
        }
        for (String word : new String[] {"on", "off", "in", "at", "even", "pan", "a", "z", times(300, "h")}) {
            fails(1, "^" + word + " 1;");
        }
    }

    @Says({"N: digits, as many as stand there.", "2 an N that is none such"})
    static void t2_numbersAreAsManyDigitsAsStandThere() {
        takes("hold " + times(300, "0") + "200;");
        fails(2, "hold ^" + times(300, "0") + "201;");
        fails(2, "hold ^" + times(300, "0") + ";");
        fails(2, "hold ^" + times(300, "9") + ";");
        fails(1, "hold 1 ^0;");
        fails(1, "hold 1^.0;");
        fails(1, "hold 1^-;");
        fails(1, "hold 1^x;");
        fails(1, "hold ^/;");
        fails(1, "hold ^:;");
        fails(1, "hold ^+1;");
        fails(1, "hold ^-1;");
        fails(2, "hold ^0x1;");
    }

    @Says("blanks (32) may stand ahead of all these, and at the end")
    static void t2_blanksAheadOfAllAndAtTheEnd() {
        takes("   hold   1   ;   ");
        takes(" move  0 . 10  - 32 , 0 . 01  1  in  3  both ; ");
        takes(" say  0  abc  at  0 ; tie  1 ; free  1 ; rig  0  on ; rig  0  off ; hold 1 ; ");
        takes(" camera  pan  0  in  1  even ; hold 1 ; ");
        takes(" repeat  2  [  hold  1  ;  ]  ; ");
        takes("move0.10-32,0.0 1in3both;say0abc at0;tie1;free1;rig0on;rig0off;camera pan0in1even;repeat2[hold1;];");
    }

    @Says("blanks (32) may stand ahead of all these, and at the end")
    static void t2_otherSignsAreNoBlanks() {
        for (int sign : new int[] {0, 9, 10, 11, 12, 13, 31, 33, 127, 128, 133, 160, 255}) {
            fails(1, "hold^" + (char) sign + "1;");
            fails(1, "^" + (char) sign + "hold 1;");
            fails(1, " ^" + (char) sign + "hold 1;");
            fails(1, "hold 1;^" + (char) sign);
            fails(1, "hold 1; ^" + (char) sign);
        }
    }

    @Says("blanks (32) may stand ahead of all these, and at the end")
    static void t2_noBlanksInsideOfWordsAndNumbers() {
        fails(1, "^ho ld 1;");
        fails(1, "hold 1 ^1;");
        fails(1, "move 0.0 1 ^i n 1;");
        fails(1, "say 0 a ^b at 0;");
    }

    // The kinds of S.

    @Says("\"hold\" N (frames, 1 to 200)")
    static void t2_holdOf1To200() {
        number(1, 200, "hold ", ";");
        lasts(200, "hold 200;");
        lasts(1, "hold 1;");
    }

    @Says("\"move\" A { \",\" A } \"in\" N (1 to 200) and perhaps EASE")
    static void t2_moveOf1To200() {
        number(1, 200, "move 0.0 1 in ", ";");
        number(1, 200, "move 0.0 1, 0.1 2 in ", " slow;");
        lasts(200, "move 0.0 1 in 200;");
        lasts(1, "move 0.0 1 in 1;");
        fails(1, "move ^in 1;");
        fails(1, "move 0.0 1,^;");
        fails(1, "move 0.0 1, ^in 1;");
        fails(1, "move 0.0 1^;");
        fails(1, "move 0.0 1^");
        fails(1, "move 0.0 1 in^;");
        fails(1, "move 0.0 1 ^0.1 1 in 1;");
        fails(1, "move 0.0 1 in 1^,0.1 1 in 1;");
    }

    @Says("\"move\" A { \",\" A } \"in\" N (1 to 200) and perhaps EASE")
    static void t2_asManyAAsTheBytesHold() {
        // 5, 65 times 6 less 1, and 4 bytes: 398.
        lasts(9, "move " + times(64, "0.0 1,") + "0.0 1in9;");
        fails(2, "move " + times(64, "0.0 1,") + "0.^11 1in9;");
        // Without a blank J would take the digits of V; below 0 none is needed.
        lasts(9, "move" + times(64, "0.0-1,") + "0.10-1in9;");
    }

    @Says("A: P \".\" J V; V: \"-\" or none, and N (0 to 32)")
    static void t2_vOf0To32PerhapsBelow() {
        number(0, 32, "move 0.0 -", " in 1;");
        number(0, 32, "move 0.0 - ", " in 1;");
        number(0, 32, "move 0.0 1, 0.3 ", "in 1;");
        takes("move 0.0 -0 in 1;");
        takes("move 0.0-1 in 1;");
        fails(1, "move 0.0 -^-1 in 1;");
        fails(1, "move 0.0 ^+1 in 1;");
        fails(1, "move 0.0 ^in 1;");
        fails(1, "move 0.0 - ^in 1;");
        fails(1, "move 0^,0 1 in 1;");
        fails(1, "move 0 ^0 1 in 1;");
        fails(1, "move 0.^.0 1 in 1;");
        fails(1, "move 0.^-1 1 in 1;");
        fails(1, "move ^-0.0 1 in 1;");
        fails(1, "move 0.0^");
        fails(1, "move 0.^");
        fails(1, "move 0^");
    }

    @Says("A: P \".\" J V; V: \"-\" or none, and N (0 to 32)")
    static void t2_theStepThatIsToldAtItsEdges() {
        PuppetFilm film = after(TextEdgesTest::cast);
        is(0, tell(film, "move 0.0 32,0.1 -32,0.2 0,0.3 -0,0.4 032,0.5-00032,0.6 1 in 1;"));
        int[] due = {32, -32, 0, 0, 32, -32, 1, 0};
        for (int j = 0; j < due.length; j++) {
            is(due[j], film.step(0, 0, 0, j));
        }
    }

    @Says("P: N, a PUPPET that there is")
    static void t2_puppetsThatThereAre() {
        number(0, 1, "tie ", ";hold 1;");
        number(0, 1, "free ", ";hold 1;");
        number(0, 1, "rig ", " on;hold 1;");
        number(0, 1, "say ", " a at 0;hold 1;");
        fails(2, "move ^2.0 1 in 1;");
        fails(2, "move 0.0 1,^2.0 1 in 1;");
        is(2000 + 4, faultOf(x, "tie 0;hold 1;"));
        is(2000 + 5, faultOf(x, "move 0.0 1 in 1;"));
        for (int p = 0; p < 8; p++) {
            x.puppet();
        }
        is(0, faultOf(x, "tie 7;hold 1;"));
        is(2004, faultOf(x, "tie 8;hold 1;"));
    }

    @Says("J: N, a JOINT of it that there is")
    static void t2_jointsOfThatPuppet() {
        number(0, 10, "move 0.", " 1 in 1;");
        fails(2, "move 1.^0 1 in 1;");
        fails(2, "move 1.^10 1 in 1;");
        fails(2, "move 0.10 1, 1 .^0 1 in 1;");
        // J takes all digits: the blank ahead of V is needed.
        fails(2, "move 0.^31 in 1;");
        fails(1, "move 0.3 ^in 1;");
    }

    @Says("EASE: \"even\", \"slow\", \"soft\" or \"both\" (without: even)")
    static void t2_easesAndNoOthers() {
        for (String ease : new String[] {"even", "slow", "soft", "both", ""}) {
            takes("move 0.0 1 in 1 " + ease + ";");
            takes("move 0.0 1 in 1" + ease + ";");
            takes("camera pan 1 in 1 " + ease + ";hold 1;");
        }
        for (String none : new String[] {"e", "eve", "evens", "slowly", "sof", "bothe", "evenslow", "at", "x"}) {
            fails(1, "move 0.0 1 in 1 ^" + none + ";");
            fails(1, "camera pan 1 in 1 ^" + none + ";");
        }
        fails(1, "move 0.0 1 in 1 even ^slow;");
        fails(1, "move 0.0 1 in 1 ^Even;");
        fails(1, "move 0.0 1 in 1 ^2;");
        fails(1, "hold 1 ^even;");
    }

    @Says("\"say\" P WORD \"at\" N (0 to 400)")
    static void t2_sayAt0To400() {
        number(0, 400, "say 0 a at ", ";hold 1;");
        number(0, 400, "say 1 abcdefghijklmnopqrst at ", ";hold 1;");
        takes("say 0a at400;hold 1;");
        takes("say 0 at at 0;hold 1;");
        fails(1, "say 0 at ^5;");
        fails(1, "say 0 a ^an 5;");
        fails(1, "say 0 a ^5;");
        fails(1, "say 0 a at^;");
        fails(1, "say ^a at 5;");
        fails(1, "say 0 a at 5 ^even;");
    }

    @Says({"WORD: small letters, as many as stand there, 1 to 20", "also a WORD of more than 20"})
    static void t2_wordOf1To20Letters() {
        takes("say 0 a at 0;hold 1;");
        takes("say 0 " + times(20, "z") + " at 0;hold 1;");
        fails(1, "say 0 ^" + times(21, "z") + " at 0;hold 1;");
        fails(1, "say 0 ^" + times(300, "z") + " at 0;hold 1;");
        fails(1, "say 0 ^" + times(21, "z"));
        fails(1, "say 0 " + times(20, "z") + "^");
        fails(1, "say 0 ^;");
        fails(1, "say 0 ^3 at 0;");
        fails(1, "say 0 ^A at 0;");
        fails(1, "say 0 a^B at 0;");
        fails(1, "say 0^");
        fails(1, "say 0  ^");
    }

    @Says("\"tie\" P; \"free\" P; \"rig\" P and \"on\" or \"off\"")
    static void t2_tieFreeAndRig() {
        takes("tie 0;free 0;rig 0 on;rig 0 off;rig 1on;hold 1;");
        fails(1, "tie ^;");
        fails(1, "free ^x;");
        fails(1, "tie 0^,1;");
        fails(1, "tie 0 ^on;");
        fails(1, "rig 0^;");
        fails(1, "rig 0 ^o;");
        fails(1, "rig 0 ^of;");
        fails(1, "rig 0 ^offf;");
        fails(1, "rig 0 ^onoff;");
        fails(1, "rig 0 on ^off;");
        fails(1, "rig ^on;");
        fails(1, "rig 0^");
    }

    @Says("\"camera\" AXIS N (0 to 9,999) \"in\" N (1 to 400) and perhaps EASE")
    static void t2_cameraTo0To9999In1To400() {
        number(0, 9999, "camera pan ", " in 1;hold 1;");
        number(0, 9999, "camera track ", "in 400 both;hold 1;");
        number(1, 400, "camera tilt 9999 in ", ";hold 1;");
        fails(1, "camera pan ^-1 in 1;");
        fails(1, "camera pan 1^;");
        fails(1, "camera pan 1 in^;");
        fails(1, "camera pan ^in 1;");
        fails(1, "camera pan 9^,999 in 1;");
    }

    @Says("AXIS: \"pan\" (0), \"tilt\" (1), \"track\" (2)")
    static void t2_axes() {
        PuppetFilm film = after(TextEdgesTest::cast);
        is(0, tell(film, "camera pan 1 in 1;camera tilt 2 in 1;camera track 3 in 1;hold 1;"));
        for (int axis = 0; axis < 3; axis++) {
            is(axis + 1, film.camera(0, 0, axis));
        }
        for (String none : new String[] {"pa", "pant", "panning", "til", "tracks", "roll", "zoom", "PAN", "0"}) {
            fails(1, "camera ^" + none + " 1 in 1;");
        }
        fails(1, "camera^");
    }

    @Says("\"repeat\" N (1 to 20) \"[\" { S \";\" } \"]\"")
    static void t2_repeat1To20() {
        number(1, 20, "repeat ", "[hold 1;];");
        number(1, 20, "repeat 1[repeat ", " [ ] ; hold 1;];");
        lasts(20, "repeat 20[hold 1;];");
        lasts(1, "repeat 20[];hold 1;");
        lasts(13, "repeat 2[hold 1;repeat 3[hold 1;];];repeat 4[hold 1;];repeat 5[];hold 1;");
        lasts(11, "repeat 2[repeat 1[hold 2;];repeat 3[hold 1;];];repeat 5[];hold 1;");
        fails(1, "repeat ^[hold 1;];");
        fails(1, "repeat 2^;");
        fails(1, "repeat 2 ^hold 1;");
        fails(1, "repeat 2[hold 1^];");
        fails(1, "repeat 2[hold 1;]^");
        fails(1, "repeat 2[hold 1;]^hold 1;");
        fails(1, "repeat 2[hold 1;]^];");
        fails(1, "repeat 2[hold 1;];^]");
        fails(1, "repeat 2[^;];");
        fails(1, "repeat 2[^[];];");
        fails(1, "repeat 2[hold 1;^");
        fails(1, "repeat 2[^");
        fails(1, "repeat 2[repeat 2[hold 1;];^");
        fails(1, "repeat 2^");
    }

    // FAULTS.

    @Says("the first from the left, at its first byte")
    static void t2_theFirstFaultFromTheLeft() {
        fails(1, "^x;hold 0;");
        fails(2, "hold ^0;x;");
        fails(2, "hold ^0 x");
        fails(2, "hold ^201");
        fails(2, "say ^2 abcdefghijklmnopqrstuvw at 500;");
        fails(1, "say 0 ^abcdefghijklmnopqrstuvw at 500;");
        fails(2, "say 0 abc at ^500 x;");
        fails(2, "move ^2.99 99 in 999;");
        fails(2, "move 0.^99 99 in 999;");
        fails(2, "move 0.0 ^99 in 999;");
        fails(2, "move 0.0 9 in ^999;");
        fails(2, "camera pan ^99999 in 999;");
        fails(1, "camera ^pin 99999 in 999;");
        fails(2, "hold 200;hold 200;hold ^201;");
        fails(1, "hold 200;hold 200;hold 200;^x");
    }

    @Says("1 what can't stand there (at the length, if the text ends too early")
    static void t2_aTextThatEndsTooEarly() {
        String whole = "repeat 2[move 0.0 -1,0.1 1 in 2 slow;say 0 ab at 0;tie 0;rig 0 on;camera pan 1 in 2 both;];";
        takes(whole);
        for (String cut : new String[] {"repeat", "repeat 2", "repeat 2[", "repeat 2[move", "repeat 2[move 0", "repeat 2[move 0.",
            "repeat 2[move 0.0", "repeat 2[move 0.0 -", "repeat 2[move 0.0 -1", "repeat 2[move 0.0 -1,", "repeat 2[move 0.0 -1,0.1 1 in",
            "repeat 2[move 0.0 -1,0.1 1 in 2", "repeat 2[move 0.0 -1,0.1 1 in 2 slow", "repeat 2[move 0.0 -1,0.1 1 in 2 slow;"}) {
            is(true, whole.startsWith(cut));
            fails(1, cut + "^");
            fails(1, cut + "   ^");
        }
        for (String cut : new String[] {"say", "say 0", "say 0 ab", "say 0 ab at", "say 0 ab at 0", "tie", "tie 0", "rig", "rig 0", "rig 0 on",
            "camera", "camera pan", "camera pan 1", "camera pan 1 in", "camera pan 1 in 2", "camera pan 1 in 2 both"}) {
            is(true, whole.contains(cut));
            fails(1, "hold 1;" + cut + "^");
            fails(1, cut + " ^");
        }
        // A word that is cut off is another word, at its first byte.
        fails(1, "^repea");
        fails(1, "move 0.0 1 ^i");
        fails(1, "move 0.0 1 in 2 ^slo");
        fails(1, "say 0 ab ^a");
    }

    @Says("3 a 61st S (all that are written count, repeat too)")
    static void t2_sixtyAreTakenTheSixtyFirstIsNot() {
        takes(times(59, "tie 0;") + "hold 1;");
        fails(3, times(60, "tie 0;") + "^hold 1;");
        fails(3, times(60, "tie 0;") + " ^hold 1;");
        fails(3, times(60, "tie 0;") + "^repeat 1[];");
        // Each one that is written counts once, however often it is done.
        takes("repeat 20[" + times(58, "tie 0;") + "];hold 1;");
        fails(3, "repeat 20[" + times(59, "tie 0;") + "];^hold 1;");
        fails(3, "repeat 20[" + times(59, "tie 0;") + "^hold 1;];");
        takes(times(15, "repeat1[];") + times(44, "tie0;") + "hold1;");
        fails(3, times(15, "repeat1[];") + times(45, "tie0;") + "^hold1;");
    }

    @Says("or a repeat in four others")
    static void t2_fourRepeatsInOneAnotherTheFifthIsNot() {
        takes(times(4, "repeat 2[") + "hold 1;" + times(4, "];"));
        fails(3, times(4, "repeat 2[") + "^repeat 2[hold 1;];" + times(4, "];"));
        fails(3, times(4, "repeat 2[") + "hold 1; ^repeat");
        fails(3, times(4, "repeat 2[") + "^repeat 0");
        // Behind four others, or in three, any number may stand.
        takes(times(4, "repeat 1[") + times(4, "];") + times(4, "repeat 1[") + "hold 1;" + times(4, "];"));
        takes(times(3, "repeat 1[") + times(5, "repeat 1[hold 1;];") + times(3, "];"));
    }

    @Says("of one the least")
    static void t2_ofTwoFaultsAtOnePlaceTheLeast() {
        fails(1, times(60, "tie 0;") + "^holt 1;");
        fails(1, times(60, "tie 0;") + "^;");
        fails(1, times(4, "repeat 2[") + "^repeats 2[");
        // At the length: a text that ends too early has no frame, either.
        fails(1, "repeat 2[^");
        fails(1, "hold 200;hold 200;hold 200^");
        fails(1, "hold^");
    }

    @Says("behind all, at the length: 4 there would be no frame, or more than 400")
    static void t2_framesFrom1To400() {
        fails(4, "^");
        fails(4, "    ^");
        fails(4, "tie 0;^");
        fails(4, "tie 0; ^");
        fails(4, "camera pan 1 in 400;say 0 abc at 0;repeat 20[];^");
        lasts(1, "hold 1;");
        lasts(400, "hold 200;hold 200;");
        fails(4, "hold 200;hold 200;hold 1;^");
        fails(4, "hold 200;move 0.0 1 in 200;hold 1;  ^");
        lasts(400, "repeat 20[hold 20;];");
        fails(4, "repeat 20[hold 20;];hold 1;^");
        fails(4, "repeat 20[repeat 20[repeat 20[repeat 20[hold 200;];];];];^");
        fails(4, times(4, "repeat 20[hold 200;") + times(4, "];") + "^");
        lasts(400, "repeat 20[repeat 20[hold 1;];];");
        fails(4, "repeat 20[repeat 20[hold 1;];];hold 1;^");
    }

    @Says("or more than 2,000 S are done (each as often as it is; a repeat, too, once each time)")
    static void t2_twoThousandAreDone() {
        // 1, and 20 times 1 and 7 times 14, and 1: 1,982.
        String done = "repeat 20[repeat 7[" + times(14, "tie 0;") + "];];hold 1;";
        lasts(1, done + times(18, "tie 0;"));
        fails(4, done + times(19, "tie 0;") + "^");
        fails(4, done + times(19, "tie 0;") + "   ^");
    }

    @Says("(each as often as it is; a repeat, too, once each time)")
    static void t2_aRepeatIsDoneOnceEachTimeAlsoAnEmptyOne() {
        // 1, and 20 times 1 and 20 times 1: 421, four times; 1 and 20, 15 times; and 1: 2,000.
        String done = times(4, "repeat20[repeat20[repeat1[];];];") + times(15, "repeat20[tie0;];") + "hold1;";
        lasts(1, done);
        fails(4, done + "tie0;^");
        fails(4, done + "repeat1[];^");
        fails(4, times(4, "repeat 20[") + times(4, "];") + "hold 1;^");
    }
}
