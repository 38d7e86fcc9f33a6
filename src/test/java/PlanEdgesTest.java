import java.io.IOException;

/** The edges of UNITS, SETS, CLASHES, BEST, ROWS and BUMPS (promises 20 to 27, parts 3 and 4). */
public final class PlanEdgesTest extends Edges {
    public static void main(String[] args) throws IOException {
        run(PlanEdgesTest.class);
    }

    private static void none(PuppetFilm x) {
    }

    /** Three SHOTS of 10, 20 and 30 frames, without anybody, in SETS 0, 1 and 2. */
    private static void three(PuppetFilm x) {
        for (int s = 0; s < 3; s++) {
            tell(x, "hold " + 10 * (s + 1) + ";");
            x.set(2, s, s);
        }
    }

    /** Six SHOTS of 10 frames, in SETS 0 to 5. */
    private static void six(PuppetFilm x) {
        for (int s = 0; s < 6; s++) {
            tell(x, "hold 10;");
            x.set(2, s, s);
        }
    }

    private static void fullPlan(PuppetFilm x) {
        three(x);
        for (int row = 0; row < 12; row++) {
            x.row(row % 3, row % 3, 1000 * row + 1);
        }
    }

    /** A PUPPET, and a SHOT of seven frames: in frames 3 and 4 its STEPS are those of the frame ahead. */
    private static void bumped(PuppetFilm x) {
        simple(x, -8, 8);
        tell(x, "move 0.0 3 in 3;hold 2;move 0.0 5 in 2;");
    }

    // UNITS, SETS.

    @Says({"UNITS 0 to 2: a RATE (1 to 100 frames a HALF; 10 at first)", "RATE of a UNIT (what 0)"})
    static void p20_rateOf1To100() {
        bounds(0, 2, ARGUMENT, PlanEdgesTest::three, (x, unit) -> x.set(0, unit, 1));
        bounds(1, 100, ARGUMENT, PlanEdgesTest::three, (x, rate) -> x.set(0, 0, rate));
        bounds(1, 100, ARGUMENT, PlanEdgesTest::three, (x, rate) -> x.set(0, 2, rate));
        are(new int[] {10, 10, 10}, (x, unit) -> x.set(0, unit, 1));
        are(new int[] {1, 1, 1}, (x, unit) -> x.set(0, unit, 100));
        are(new int[] {100, 100, 100}, (x, unit) -> x.set(0, unit, 100));
    }

    @Says({"SETS 0 to 7: DRESS (0 to 20 HALVES; 1 at first)", "DRESS of a SET (1)"})
    static void p20_dressOf0To20() {
        bounds(0, 7, ARGUMENT, PlanEdgesTest::three, (x, set) -> x.set(1, set, 3));
        bounds(0, 20, ARGUMENT, PlanEdgesTest::three, (x, dress) -> x.set(1, 0, dress));
        bounds(0, 20, ARGUMENT, PlanEdgesTest::three, (x, dress) -> x.set(1, 7, dress));
        are(new int[] {1, 1, 1, 1, 1, 1, 1, 1}, (x, set) -> x.set(1, set, 0));
        are(new int[] {0, 0, 0, 0, 0, 0, 0, 0}, (x, set) -> x.set(1, set, 20));
        are(new int[] {20, 20, 20, 20, 20, 20, 20, 20}, (x, set) -> x.set(1, set, 20));
    }

    @Says({"A SHOT has a SET (0 at first)", "SET of a SHOT (2): what it was"})
    static void p20_setOfAShot() {
        bounds(0, 2, ARGUMENT, PlanEdgesTest::three, (x, shot) -> x.set(2, shot, 3));
        bounds(0, 7, ARGUMENT, PlanEdgesTest::three, (x, set) -> x.set(2, 2, set));
        refuses(ARGUMENT, PlanEdgesTest::none, x -> x.set(2, 0, 0));
        tell("hold 1;");
        is(0, x.told(0, 3));
        is(0, x.set(2, 0, 7));
        is(7, x.told(0, 3));
        is(7, x.set(2, 0, 0));
        is(0, x.told(0, 3));
    }

    @Says("IllegalArgumentException: another what, no such UNIT, SET, SHOT, or v is none such.")
    static void p20_anotherWhat() {
        bounds(0, 2, ARGUMENT, PlanEdgesTest::three, (x, what) -> x.set(what, 0, 1));
        refuses(ARGUMENT, PlanEdgesTest::three, x -> x.set(3, 9, 999));
    }

    @Says("LASTS in a UNIT: frames times how many are CAST (1 at least), by RATE, rounded up.")
    static void p21_roundedUp() {
        x.puppet();
        x.puppet();
        x.puppet();
        int[][] due = {{1, 1}, {9, 1}, {10, 1}, {11, 2}, {20, 2}, {21, 3}, {200, 20}};
        for (int s = 0; s < due.length; s++) {
            is(s, tell("hold " + due[s][0] + ";"));
            is(due[s][1], x.lasts(s, 0));
        }
        is(7, tell("hold 10;tie 0;"));
        is(1, x.lasts(7, 2));
        is(8, tell("hold 10;tie 0;tie 2;"));
        is(2, x.lasts(8, 2));
        is(9, tell("hold 7;tie 0;tie 1;tie 2;"));
        is(3, x.lasts(9, 2));
        x.set(0, 2, 7);
        is(3, x.lasts(9, 2));
        x.set(0, 2, 8);
        is(3, x.lasts(9, 2));
        x.set(0, 2, 20);
        is(2, x.lasts(9, 2));
        x.set(0, 2, 21);
        is(1, x.lasts(9, 2));
        is(3, x.lasts(9, 1));
    }

    @Says("LASTS in a UNIT: frames times how many are CAST (1 at least), by RATE, rounded up.")
    static void p21_leastAndGreatest() {
        StringBuilder all = new StringBuilder("hold 200;hold 200;");
        for (int p = 0; p < 8; p++) {
            x.puppet();
            all.append("tie ").append(p).append(";");
        }
        is(0, tell(all.toString()));
        is(1, tell("hold 1;"));
        is(320, x.lasts(0, 0));
        x.set(0, 0, 1);
        is(3200, x.lasts(0, 0));
        is(1, x.lasts(1, 0));
        x.set(0, 0, 100);
        is(32, x.lasts(0, 0));
        is(1, x.lasts(1, 0));
    }

    @Says("What a SHOT LASTS in a UNIT. IllegalArgumentException: no such UNIT.")
    static void p21_noSuchUnitOrShot() {
        bounds(0, 2, ARGUMENT, PlanEdgesTest::three, (x, unit) -> x.lasts(2, unit));
        bounds(0, 2, NO_SUCH, PlanEdgesTest::three, (x, shot) -> x.lasts(shot, 2));
        refuses(NO_SUCH, PlanEdgesTest::none, x -> x.lasts(0, 3));
    }

    // CLASHES.

    @Says("Two SHOTS CLASH, if they have one SET, or one PUPPET of their CASTS, or both have somebody with one KIT who says something.")
    static void p22_oneSet() {
        three(x);
        is(false, x.clash(0, 1));
        is(false, x.clash(2, 0));
        x.set(2, 1, 0);
        is(true, x.clash(0, 1));
        is(true, x.clash(1, 0));
        is(false, x.clash(1, 2));
        // Each one has one SET with itself.
        for (int s = 0; s < 3; s++) {
            is(true, x.clash(s, s));
        }
    }

    @Says("or one PUPPET of their CASTS")
    static void p22_onePuppet() {
        for (int p = 0; p < 8; p++) {
            x.puppet();
        }
        tell("hold 1;tie 0;tie 7;");
        tell("hold 1;tie 1;tie 2;tie 3;tie 4;tie 5;tie 6;");
        tell("hold 1;tie 6;free 7;");
        tell("hold 1;");
        for (int s = 0; s < 4; s++) {
            x.set(2, s, s);
        }
        is(false, x.clash(0, 1));
        is(true, x.clash(0, 2));
        is(true, x.clash(1, 2));
        is(false, x.clash(3, 1));
        is(1, x.swap(0, 7, 2));
        is(true, x.clash(0, 1));
        is(false, x.clash(0, 2));
    }

    @Says("or both have somebody with one KIT who says something")
    static void p22_oneKit() {
        for (int p = 0; p < 4; p++) {
            x.puppet();
        }
        tell("hold 1;say 0 a at 0;tie 1;");
        tell("hold 1;say 2 a at 400;tie 3;");
        x.set(2, 1, 1);
        is(true, x.clash(0, 1));
        x.kit(2, 3);
        is(false, x.clash(0, 1));
        // 1 and 3 share a KIT, and with those who say something; but they say nothing.
        x.kit(1, 3);
        x.kit(3, 0);
        is(false, x.clash(0, 1));
        x.kit(0, 3);
        is(true, x.clash(0, 1));
    }

    @Says("Whether two SHOTS CLASH.")
    static void p22_noSuchShot() {
        bounds(0, 2, NO_SUCH, PlanEdgesTest::three, (x, shot) -> x.clash(shot, 0) ? 1 : 0);
        bounds(0, 2, NO_SUCH, PlanEdgesTest::three, (x, shot) -> x.clash(0, shot) ? 1 : 0);
        refuses(NO_SUCH, PlanEdgesTest::none, x -> x.clash(0, 0) ? 1 : 0);
        refuses(NO_SUCH, PlanEdgesTest::three, x -> x.clash(3, 3) ? 1 : 0);
    }

    // BEST.

    private static void best(int shots, int[]... due) {
        for (int k = 0; k < due.length; k++) {
            for (int what = 0; what < 4; what++) {
                is(due[k][what], x.best(shots, what, k));
            }
        }
    }

    @Says({"BEST for some SHOTS (1 to 5)", "bits tell no SHOT, or are not 1 to 5, or another what"})
    static void p23_bitsOf1To5Shots() {
        six(x);
        for (int s = 0; s < 6; s++) {
            is(2, x.best(1 << s, 4, 0));
            is(s, x.best(1 << s, 0, 0));
        }
        is(4, x.best(31, 4, 0));
        is(4, x.best(62, 4, 0));
        refusesAll(new int[] {0, 63, 64, 65, 1 << 12, 1 << 30, LEAST, LEAST + 1, MOST, -1, -2}, ARGUMENT, PlanEdgesTest::six,
                (x, bits) -> x.best(bits, 0, 0));
        refusesAll(new int[] {0, 8, 15, 16, LEAST, LEAST + 7, MOST, -1}, ARGUMENT, PlanEdgesTest::three,
                (x, bits) -> x.best(bits, 4, 0));
        refusesAll(new int[] {0, 1, 4096, -1}, ARGUMENT, PlanEdgesTest::none, (x, bits) -> x.best(bits, 5, 0));
    }

    @Says("bits tell no SHOT, or are not 1 to 5, or another what")
    static void p23_theLastOfTwelveShots() {
        for (int s = 0; s < 12; s++) {
            tell(x, "hold " + (s + 1) + ";");
        }
        is(11, x.best(1 << 11, 0, 0));
        is(3, x.best(1 << 11, 4, 0));
        is(11, x.best(1 << 11 | 1, 0, 1));
        int[] refused = {4096, 4097, 0xfff, 0x1f80};
        for (int bits : refused) {
            try {
                x.best(bits, 0, 0);
                is(0, bits);
            } catch (IllegalArgumentException e) {
                is(12, x.count(1));
            }
        }
    }

    @Says("bits tell no SHOT, or are not 1 to 5, or another what")
    static void p23_whatOf0To5() {
        bounds(0, 5, ARGUMENT, PlanEdgesTest::three, (x, what) -> x.best(7, what, 0));
        bounds(0, 5, ARGUMENT, PlanEdgesTest::three, (x, what) -> x.best(7, what, 3));
    }

    @Says("4 the greatest END, 5 the sum of ENDS (whatever k is); NONE: no such k.")
    static void p23_noSuchK() {
        three(x);
        for (int k : new int[] {3, 4, 5, 12, -1, LEAST, MOST, 1 << 30}) {
            for (int what = 0; what < 4; what++) {
                is(NONE, x.best(7, what, k));
            }
            is(4, x.best(7, 4, k));
            is(2 + 3 + 4, x.best(7, 5, k));
        }
        is(2, x.best(7, 0, 2));
        is(NONE, x.best(2, 0, 1));
        is(1, x.best(2, 0, 0));
        // Fewer of those that were asked for last, and more again.
        is(2, x.best(7, 0, 2));
        is(NONE, x.best(3, 0, 2));
        is(3, x.best(3, 4, 0));
        is(2 + 3, x.best(3, 5, 0));
        is(NONE, x.best(1, 0, 1));
        is(2, x.best(1, 4, 0));
        is(2 + 3 + 4, x.best(7, 5, 0));
        answersOnly(NONE, PlanEdgesTest::three, x -> x.best(7, 0, 3));
    }

    @Says("SHOTS begin so: at the UNIT's END (0 at first), DRESS of the SET later, if the UNIT's SHOT ahead has not that SET (or there is none)")
    static void t3_placedDressLater() {
        three(x);
        best(1, new int[] {0, 0, 1, 2});
        x.set(1, 0, 0);
        best(1, new int[] {0, 0, 0, 1});
        x.set(1, 0, 20);
        best(1, new int[] {0, 0, 20, 21});
        // One SET: behind one another in one UNIT it is dressed once.
        x.set(2, 1, 0);
        best(3, new int[] {0, 0, 20, 21}, new int[] {1, 0, 21, 23});
        is(23, x.best(3, 4, 0));
        is(44, x.best(3, 5, 0));
    }

    @Says("but not ahead of the END of any SHOT placed that CLASHES")
    static void t3_placedNotAheadOfTheEndOfAClash() {
        x.puppet();
        tell("hold 30;tie 0;");
        tell("hold 10;tie 0;");
        x.set(2, 1, 1);
        // In another UNIT DRESS is done in time: 1 to 2, then 2 to 5.
        best(3, new int[] {1, 0, 1, 2}, new int[] {0, 1, 2, 5});
        is(5, x.best(3, 4, 0));
        is(7, x.best(3, 5, 0));
        // Just at the END, and DRESS that takes longer.
        x.set(1, 0, 2);
        best(3, new int[] {1, 0, 1, 2}, new int[] {0, 1, 2, 5});
        x.set(1, 0, 3);
        best(3, new int[] {1, 0, 1, 2}, new int[] {0, 1, 3, 6});
    }

    @Says({"of all ways to place them (in each order, each in each UNIT)", "those with the least greatest END; of these with the least sum of ENDS"})
    static void t3_leastGreatestEndThenLeastSum() {
        x.puppet();
        for (int s = 0; s < 5; s++) {
            tell("hold " + 10 * (5 - s) + ";tie 0;");
        }
        x.set(1, 0, 0);
        // All CLASH and have one SET: 15 whatever the order; the shortest first has the least sum.
        best(31, new int[] {4, 0, 0, 1}, new int[] {3, 0, 1, 3}, new int[] {2, 0, 3, 6}, new int[] {1, 0, 6, 10}, new int[] {0, 0, 10, 15});
        is(15, x.best(31, 4, 0));
        is(1 + 3 + 6 + 10 + 15, x.best(31, 5, 0));
    }

    @Says("of these the first (SHOT by SHOT as placed: by its number, then by its UNIT; a way counts as the row of these)")
    static void t3_ofAlikeWaysTheFirst() {
        six(x);
        // One in each UNIT, in the order of their numbers and UNITS.
        best(7, new int[] {0, 0, 1, 2}, new int[] {1, 1, 1, 2}, new int[] {2, 2, 1, 2});
        best(52, new int[] {2, 0, 1, 2}, new int[] {4, 1, 1, 2}, new int[] {5, 2, 1, 2});
        // Five in three UNITS: 2, 2, 2, 4, 4 whichever; the first row of all.
        best(31, new int[] {0, 0, 1, 2}, new int[] {1, 0, 3, 4}, new int[] {2, 1, 1, 2}, new int[] {3, 1, 3, 4}, new int[] {4, 2, 1, 2});
        is(14, x.best(31, 5, 0));
        // UNIT 1 alone is fast.
        x.set(0, 0, 1);
        x.set(0, 2, 1);
        best(3, new int[] {0, 1, 1, 2}, new int[] {1, 1, 3, 4});
    }

    @Says("those with the least greatest END; of these with the least sum of ENDS")
    static void t3_theGreatestEnds() {
        StringBuilder all = new StringBuilder("hold 200;hold 200;");
        for (int p = 0; p < 8; p++) {
            x.puppet();
            all.append("tie ").append(p).append(";");
        }
        for (int s = 0; s < 5; s++) {
            tell(all.toString());
            x.set(2, s, s);
            x.set(1, s, 20);
        }
        for (int unit = 0; unit < 3; unit++) {
            x.set(0, unit, 1);
        }
        // All CLASH; but DRESS in another UNIT is done meanwhile.
        is(16020, x.best(31, 4, 0));
        is(5 * 20 + 15 * 3200, x.best(31, 5, 0));
    }

    // ROWS.

    @Says({"ROWS of a plan, 12 at most: a SHOT, a UNIT, a begin.", "A ROW comes: how many there are; -1: there are 12."})
    static void p24_twelveRows() {
        three(x);
        for (int n = 1; n <= 12; n++) {
            is(n, x.row(n % 3, n % 3, n));
            is(n, x.count(2));
        }
        is(-1, x.row(0, 0, 0));
        is(12, x.count(2));
        answersOnly(-1, PlanEdgesTest::fullPlan, x -> x.row(0, 0, 1));
        answersOnly(-1, PlanEdgesTest::fullPlan, x -> x.row(2, 2, 100000));
    }

    @Says("NoSuchElementException: no such SHOT; IllegalArgumentException: no such UNIT, or the begin is not 0 to 100,000.")
    static void p24_shotUnitAndBegin() {
        bounds(0, 2, NO_SUCH, PlanEdgesTest::three, (x, shot) -> x.row(shot, 0, 0));
        bounds(0, 2, ARGUMENT, PlanEdgesTest::three, (x, unit) -> x.row(0, unit, 0));
        bounds(0, 100000, ARGUMENT, PlanEdgesTest::three, (x, begin) -> x.row(0, 0, begin));
        bounds(0, 100000, ARGUMENT, PlanEdgesTest::three, (x, begin) -> x.row(2, 2, begin));
        refuses(NO_SUCH, PlanEdgesTest::none, x -> x.row(0, 3, -1));
        refuses(NO_SUCH, PlanEdgesTest::fullPlan, x -> x.row(3, 3, -1));
        refuses(ARGUMENT, PlanEdgesTest::fullPlan, x -> x.row(0, 3, 0));
        refuses(ARGUMENT, PlanEdgesTest::fullPlan, x -> x.row(0, 0, 100001));
    }

    private static void rows(int due, int[]... rows) {
        x.clear();
        for (int[] row : rows) {
            x.row(row[0], row[1], row[2]);
        }
        is(due, x.check());
        is(due, x.check());
    }

    @Says({"4 times the first ROW that errs, and 1 to 3 for why (the least); NONE: none errs.", "1 the SHOT has a row ahead"})
    static void p25_theShotHasARowAhead() {
        three(x);
        rows(NONE);
        rows(NONE, new int[] {0, 0, 1});
        rows(4 + 1, new int[] {0, 0, 1}, new int[] {0, 0, 50});
        rows(4 + 1, new int[] {0, 0, 1}, new int[] {0, 1, 50});
        // The least why: it is too soon (2), and shares a HALF with itself (3), too.
        rows(4 + 1, new int[] {0, 0, 1}, new int[] {0, 0, 0});
        rows(8 + 1, new int[] {0, 0, 1}, new int[] {1, 1, 1}, new int[] {0, 2, 90}, new int[] {1, 2, 0});
    }

    @Says({"CHECKED in order, each with those ahead of it", "4 times the first ROW that errs"})
    static void p25_theTwelfthRowErrs() {
        for (int s = 0; s < 12; s++) {
            tell("hold 10;");
        }
        x.set(1, 0, 0);
        for (int s = 0; s < 11; s++) {
            is(s + 1, x.row(s, s % 3, s));
        }
        is(NONE, x.check());
        is(12, x.row(11, 2, 11));
        is(NONE, x.check());
        x.clear();
        for (int s = 0; s < 11; s++) {
            x.row(s, s % 3, s);
        }
        x.row(11, 2, 10);
        is(44 + 3, x.check());
        x.clear();
        for (int s = 0; s < 11; s++) {
            x.row(s, s % 3, s);
        }
        x.row(10, 2, 90000);
        is(44 + 1, x.check());
    }

    @Says("2 it begins ahead of the END of the UNIT's row ahead (the latest told), and of DRESS of its SET if that had another SET")
    static void p25_aheadOfTheEndOfTheUnitsRowAhead() {
        three(x);
        x.set(1, 1, 3);
        // SHOT 0 ends in 2; 3 of DRESS later SHOT 1 may begin.
        rows(NONE, new int[] {0, 0, 1}, new int[] {1, 0, 5});
        rows(4 + 2, new int[] {0, 0, 1}, new int[] {1, 0, 4});
        rows(4 + 2, new int[] {0, 0, 1}, new int[] {1, 0, 2});
        x.set(1, 1, 0);
        rows(NONE, new int[] {0, 0, 1}, new int[] {1, 0, 2});
        rows(4 + 2, new int[] {0, 0, 1}, new int[] {1, 0, 1});
        // With that SET none is needed.
        x.set(1, 0, 1);
        x.set(2, 1, 0);
        rows(NONE, new int[] {0, 0, 1}, new int[] {1, 0, 2});
        rows(4 + 2, new int[] {0, 0, 1}, new int[] {1, 0, 1});
        // The latest told, not that which ends last.
        x.set(2, 1, 1);
        rows(4 + 2, new int[] {0, 0, 100}, new int[] {1, 0, 50}, new int[] {2, 0, 53});
        rows(NONE, new int[] {0, 0, 1}, new int[] {1, 1, 50}, new int[] {2, 0, 3});
    }

    @Says("(without one: ahead of DRESS)")
    static void p25_withoutARowAheadNotAheadOfDress() {
        three(x);
        rows(2, new int[] {0, 0, 0});
        rows(NONE, new int[] {0, 0, 1});
        x.set(1, 0, 20);
        rows(2, new int[] {0, 2, 19});
        rows(NONE, new int[] {0, 2, 20});
        x.set(1, 0, 0);
        rows(NONE, new int[] {0, 1, 0});
        // In each UNIT anew.
        rows(4 + 2, new int[] {0, 1, 0}, new int[] {1, 0, 0});
    }

    @Says("3 it shares a HALF with a row of a SHOT that CLASHES")
    static void p25_sharesAHalfWithAClash() {
        three(x);
        x.set(2, 2, 1);
        // SHOT 2 takes 10, 11, 12; SHOT 1 takes two HALVES.
        rows(NONE, new int[] {2, 0, 10}, new int[] {1, 1, 8});
        rows(4 + 3, new int[] {2, 0, 10}, new int[] {1, 1, 9});
        rows(4 + 3, new int[] {2, 0, 10}, new int[] {1, 1, 10});
        rows(4 + 3, new int[] {2, 0, 10}, new int[] {1, 1, 12});
        rows(NONE, new int[] {2, 0, 10}, new int[] {1, 1, 13});
        // Inside of it; and one that does not CLASH.
        rows(4 + 3, new int[] {1, 0, 11}, new int[] {2, 1, 10});
        rows(NONE, new int[] {2, 0, 10}, new int[] {0, 1, 11});
        // Of any row ahead, whatever stands between.
        rows(8 + 3, new int[] {2, 0, 10}, new int[] {0, 1, 1}, new int[] {1, 2, 12});
        x.set(0, 2, 100);
        rows(NONE, new int[] {2, 0, 10}, new int[] {1, 2, 9});
    }

    @Says("3 it shares a HALF with a row of a SHOT that CLASHES")
    static void p25_atTheGreatestBegin() {
        three(x);
        x.set(2, 2, 1);
        rows(4 + 3, new int[] {2, 0, 100000}, new int[] {1, 1, 100000});
        rows(4 + 2, new int[] {2, 0, 100000}, new int[] {1, 0, 100000});
        rows(NONE, new int[] {2, 0, 99998}, new int[] {1, 1, 99996});
    }

    @Says("All ROWS are gone: how many there were.")
    static void p26_emptyAndFull() {
        is(0, x.clear());
        answersOnly(0, PlanEdgesTest::three, PuppetFilm::clear);
        PuppetFilm film = after(PlanEdgesTest::fullPlan);
        is(12, film.clear());
        is(0, film.clear());
        is(0, film.count(2));
        is(NONE, film.check());
        is(1, film.row(0, 0, 1));
        is(NONE, film.check());
    }

    // BUMPS.

    @Says({"BUMP in a frame of a SHOT, of a size (1 to 1,000).", "IllegalArgumentException: the size, or another what."})
    static void p27_sizeFrameAndWhat() {
        bounds(1, 1000, ARGUMENT, PlanEdgesTest::bumped, (x, size) -> x.bump(0, 0, size, 0));
        bounds(1, 1000, ARGUMENT, PlanEdgesTest::bumped, (x, size) -> x.bump(0, 6, size, 2));
        bounds(0, 2, ARGUMENT, PlanEdgesTest::bumped, (x, what) -> x.bump(0, 3, 5, what));
        bounds(0, 6, INDEX, PlanEdgesTest::bumped, (x, frame) -> x.bump(0, frame, 5, 1));
        bounds(0, 0, NO_SUCH, PlanEdgesTest::bumped, (x, shot) -> x.bump(shot, 0, 5, 1));
        refuses(NO_SUCH, PlanEdgesTest::none, x -> x.bump(0, 0, 0, 3));
    }

    private static void bump(int frame, int size, int... due) {
        are(due, (x, what) -> x.bump(0, frame, size, what));
    }

    @Says("BACK: to the latest frame up to that one (it counts, too) that is ALIKE the one ahead of it, or to 0 if none is")
    static void t4_backToTheLatestAlikeFrame() {
        bumped(x);
        int[] due = {0, 0, 0, 3, 4, 4, 4};
        for (int frame = 0; frame < 7; frame++) {
            is(due[frame], x.bump(0, frame, 1, 2));
        }
        // Frame 0 has none ahead of it; frame 1 may be ALIKE it.
        is(1, tell("hold 2;move 0.0 3 in 3;"));
        is(0, x.bump(1, 0, 1, 2));
        is(1, x.bump(1, 1, 1, 2));
        is(1, x.bump(1, 4, 1, 2));
    }

    @Says({"ON: size times the frames from that one to the last one", "how many frames from that one to the BUMP's, both in, times how many are CAST, and the size",
        "AGAIN: all frames times how many are CAST, and 10 times DRESS of its SET"})
    static void t4_theFirstAndTheLastFrame() {
        bumped(x);
        // The last frame: ON is the size once; BACK is 3 and the size.
        bump(6, 1, 0, 1, 4);
        bump(6, 17, 0, 17, 4);
        bump(6, 18, 2, 17, 4);
        // The first frame: ON is 7 times the size; BACK is 1 and the size; AGAIN is 7 and 10.
        bump(0, 1, 1, 2, 0);
        bump(0, 15, 1, 16, 0);
        bump(0, 17, 2, 17, 0);
        bump(0, 1000, 2, 17, 0);
        x.set(1, 0, 20);
        bump(0, 1000, 2, 207, 0);
        bump(0, 200, 1, 201, 0);
    }

    @Says("Least is done; of alike ones the first of these.")
    static void t4_ofAlikeOnesTheFirst() {
        bumped(x);
        // Frame 5: ON is 2 times the size, BACK is 2 and the size: both 4 of a size of 2.
        bump(5, 2, 0, 4, 4);
        bump(5, 3, 1, 5, 4);
        // BACK and AGAIN: 2 and 15 are 17.
        bump(5, 15, 1, 17, 4);
        bump(5, 16, 2, 17, 4);
        // ON and AGAIN.
        bump(6, 17, 0, 17, 4);
        // AGAIN is 0 where nobody is CAST and nothing is dressed; then all three are 2.
        is(1, tell("hold 1;"));
        x.set(1, 0, 0);
        are(new int[] {2, 0, 0}, (x, what) -> x.bump(1, 0, 1, what));
        is(2, tell("hold 2;tie 0;"));
        are(new int[] {0, 2, 0}, (x, what) -> x.bump(2, 0, 1, what));
        are(new int[] {0, 1, 1}, (x, what) -> x.bump(2, 1, 1, what));
        are(new int[] {0, 2, 1}, (x, what) -> x.bump(2, 1, 2, what));
    }

    @Says("times how many are CAST, and the size")
    static void t4_howManyAreCastAlsoNobody() {
        for (int p = 0; p < 8; p++) {
            x.puppet();
        }
        is(0, tell("hold 200;hold 200;"));
        // Nobody is CAST: BACK is the size alone, AGAIN 10 times DRESS alone.
        bump(399, 3, 0, 3, 399);
        bump(0, 3, 1, 3, 0);
        bump(0, 10, 1, 10, 0);
        bump(0, 11, 2, 10, 0);
        x.set(1, 0, 0);
        bump(0, 1, 2, 0, 0);
        is(1, tell("camera pan 400 in 400;hold 200;hold 200;tie 0;tie 1;tie 2;tie 3;tie 4;tie 5;tie 6;tie 7;"));
        x.set(1, 0, 20);
        are(new int[] {2, 3400, 0}, (x, what) -> x.bump(1, 396, 1000, what));
    }
}
