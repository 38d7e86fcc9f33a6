import java.util.Random;

/** BEST (promise 23) held against trying all ways: each order, each UNIT, for SHOTS drawn with fixed seeds. */
public final class BestTest {
    private static final int UNITS = 3;

    private final PuppetFilm x = new PuppetFilm();
    private final Random random;
    private final int[] sets = new int[5];
    private final int[] dress = new int[8];
    private int[] numbers;
    private int[][] lasts;
    private boolean[][] clash;
    private int[][] way;
    private int[][] best;
    private int bestTop;
    private int bestSum;

    private BestTest(long seed) {
        random = new Random(seed);
    }

    public static void main(String[] args) {
        int runs = args.length > 0 ? Integer.parseInt(args[0]) : 1500;
        int wrong = 0;
        for (int seed = 0; seed < runs && wrong < 3; seed++) {
            wrong += new BestTest(seed).holds() ? 0 : 1;
        }
        System.out.println(wrong == 0 ? "BEST of all ways in " + runs + " runs" : "other ways are better");
        if (wrong != 0) {
            System.exit(1);
        }
    }

    private void tell(String text) {
        for (int at = 0; at < text.length(); at += 20) {
            int[] n = new int[5];
            for (int i = 0; i < 20; i++) {
                n[i / 4] = n[i / 4] << 8 | (at + i < text.length() ? text.charAt(at + i) : 0);
            }
            x.feed(n[0], n[1], n[2], n[3], n[4]);
        }
        x.shot(text.length());
    }

    private void setUp() {
        int style = random.nextInt(4);
        int puppets = 1 + random.nextInt(8);
        for (int p = 0; p < puppets; p++) {
            x.puppet();
            x.kit(p, random.nextInt(4));
        }
        for (int unit = 0; unit < UNITS; unit++) {
            if (random.nextBoolean()) {
                x.set(0, unit, 1 + random.nextInt(style == 2 ? 3 : 12));
            }
        }
        for (int set = 0; set < 8; set++) {
            dress[set] = random.nextInt(style == 3 ? 21 : 4);
            x.set(1, set, dress[set]);
        }
        int fewSets = 1 + random.nextInt(5);
        for (int s = 0; s < 5; s++) {
            StringBuilder text = new StringBuilder("hold ").append(1 + random.nextInt(style == 0 ? 3 : 60)).append(";");
            for (int n = random.nextInt(style == 1 ? 1 : 3); n > 0; n--) {
                text.append("tie ").append(random.nextInt(puppets)).append(";");
            }
            text.append(random.nextInt(3) == 0 ? "say " + random.nextInt(puppets) + " a at 0;" : "");
            tell(text.toString());
            sets[s] = random.nextInt(fewSets);
            x.set(2, s, sets[s]);
        }
    }

    private boolean holds() {
        setUp();
        int bits = random.nextInt(3) > 0 ? 31 : 1 + random.nextInt(31);
        numbers = new int[Integer.bitCount(bits)];
        int n = 0;
        for (int s = 0; s < 5; s++) {
            if ((bits >> s & 1) == 1) {
                numbers[n++] = s;
            }
        }
        lasts = new int[n][UNITS];
        clash = new boolean[n][n];
        for (int i = 0; i < n; i++) {
            for (int unit = 0; unit < UNITS; unit++) {
                lasts[i][unit] = x.lasts(numbers[i], unit);
            }
            for (int j = 0; j < n; j++) {
                clash[i][j] = x.clash(numbers[i], numbers[j]);
            }
        }
        way = new int[n][4];
        best = null;
        tryAll(0, new int[n], new int[UNITS], new int[] {-1, -1, -1}, 0, 0);
        boolean fine = x.best(bits, 4, 0) == bestTop && x.best(bits, 5, 0) == bestSum;
        for (int k = 0; k < n; k++) {
            for (int what = 0; what < 4; what++) {
                fine &= x.best(bits, what, k) == best[k][what];
            }
        }
        return fine;
    }

    /** ends: of those placed, 0 of others; unitEnds and unitSets: of the UNITS so far. */
    private void tryAll(int depth, int[] ends, int[] unitEnds, int[] unitSets, int top, int sum) {
        if (depth == numbers.length) {
            if (best == null || top < bestTop || top == bestTop && sum < bestSum) {
                bestTop = top;
                bestSum = sum;
                best = new int[depth][];
                for (int k = 0; k < depth; k++) {
                    best[k] = way[k].clone();
                }
            }
            return;
        }
        for (int i = 0; i < numbers.length; i++) {
            for (int unit = 0; unit < UNITS && ends[i] == 0; unit++) {
                int set = sets[numbers[i]];
                int begin = unitEnds[unit] + (unitSets[unit] == set ? 0 : dress[set]);
                for (int j = 0; j < numbers.length; j++) {
                    begin = clash[i][j] ? Math.max(begin, ends[j]) : begin;
                }
                int end = begin + lasts[i][unit];
                way[depth] = new int[] {numbers[i], unit, begin, end};
                int[] nextEnds = ends.clone();
                int[] nextUnitEnds = unitEnds.clone();
                int[] nextUnitSets = unitSets.clone();
                nextEnds[i] = end;
                nextUnitEnds[unit] = end;
                nextUnitSets[unit] = set;
                tryAll(depth + 1, nextEnds, nextUnitEnds, nextUnitSets, Math.max(top, end), sum + end);
            }
        }
    }
}
