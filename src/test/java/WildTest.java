import java.util.Random;

/** Any arguments in any state: no call throws, no call changes what it refuses, the same calls give the same answers. */
public final class WildTest {
    private static final Check c = new Check();
    private static final int[] ODD = {0, 1, -1, 2, 3, 4, 5, 6, 9, 10, 15, 20, 39, 40, 41, 63, 64, 99, 100, 400, 401, 900, 999, 1000,
        -2, 31, 32, 33, 65535, 65536, 65537, 9999, 10000, 99999, 100000, Integer.MAX_VALUE, Integer.MIN_VALUE,
        Integer.MAX_VALUE - 1, Integer.MIN_VALUE + 1, 2000000000, -2000000000, 0x20202020, 0x3b3b3b3b};

    private static final String[] STREETS = {"",
        "stuff a 50 1 9 90 0;stuff b 9 0 1 0 0;tin t 100 90 80 70;tin u 99 99 99 99;word w 1 2 3 4;word v 9 0 0 9;word r 3 3 3 3;"
            + "house h 1 2;house i 5 6;house j 9 1;post 9 9;loop l 3 1 2 3 4;wet 10;wind 5;noise 2;",
        "stuff a 1 0 0 0 0;wet 90;wind 50;", "tin t 0 0 0 0;word w 0 0 0 0;", "word w 1 1 1 1;house a 0 0;",
        "stuff a 99 999 999 999 999;tin t 0 0 0 0;word a 9 9 9 9;word b 9 9 9 9;noise 3;loop l 1 9 9 9 9;",
        "stuff a 1 0 0 0 0;stuff a", "house a 0 0;house b 99 99;post 0 0;post 1 1;post 2 2;post 3 3;post 4 4;"};

    private static int odd(Random r) {
        return r.nextInt(8) == 0 ? r.nextInt() : ODD[r.nextInt(ODD.length)];
    }

    private static int small(Random r) {
        return r.nextInt(3) == 0 ? odd(r) : r.nextInt(4);
    }

    private static long call(TinString x, int which, Random r) {
        int a = small(r), b = small(r), d = small(r), e = small(r), f = small(r);
        switch (which) {
            case 0: return x.feed(a, b, d, e, f);
            case 1: return x.end(a);
            case 2: return x.street();
            case 3: return x.fault(a);
            case 4: return x.told(a);
            case 5: return x.band(a, b, d);
            case 6: return x.line(a, b, d, e);
            case 7: return x.bend(a);
            case 8: return x.tie(a);
            case 9: return x.straighten();
            case 10: return x.bears(a);
            case 11: return x.through(a, b);
            case 12: return x.share(a, b, d);
            case 13: return x.level(a, b);
            case 14: return x.table(a, b);
            case 15: return x.among(a, b, d);
            case 16: return x.longest(a, b, d);
            case 17: return x.best(a);
            case 18: return x.bestLoop(a);
            case 19: return x.list(a);
            case 20: return x.said(a, b);
            case 21: return x.stretch(a);
            case 22: return x.cell(a, b, d);
            case 23: return x.send(a, b);
            case 24: return x.tick(a);
            case 25: return x.goes(a, b);
            case 26: return x.out(a);
            case 27: return x.keep(a);
            case 28: return x.take(a);
            case 29: return x.yards(a, b);
            case 30: return x.wish(a, b);
            case 31: return x.least(a, b);
            case 32: return x.taps();
            case 33: return x.tapRow(a, b);
            case 34: return x.write(a, b, d);
            case 35: return x.right(a, b, d);
            case 36: return x.fit(a, b);
            case 37: return x.listened(a, b, d);
            case 38: return x.count(a);
            default: return Check.street(x, STREETS[r.nextInt(STREETS.length)]);
        }
    }

    private static long run(long seed, boolean all) {
        Random r = new Random(seed);
        TinString x = new TinString();
        long sum = 0;
        for (int i = 0; i < 512; i++) {
            int which = !all && i == 0 ? 39 : r.nextInt(i % 10 == 0 ? 40 : 39);
            if (which == 2 && r.nextInt(4) > 0) {
                which = 39;
            }
            sum = sum * 31 + call(x, which, r);
        }
        return sum;
    }

    public static void main(String[] args) {
        for (long seed = 0; seed < 400; seed++) {
            long once = run(seed, seed % 2 == 0);
            c.due("the same calls by seed " + seed, run(seed, seed % 2 == 0), once);
        }
        c.end();
    }
}
