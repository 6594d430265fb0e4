/** Promises 16 to 22: which WORD is taken for which. */
public final class WordsTest {
    private static final Check c = new Check();

    // A tin of 71 takes 504 of 1000 at both ends: the LEVEL is as LOUD as the WORD was (504 each, cut to 1 .. 9).
    private static final String EVEN = "stuff a 10 0 0 0 0;tin t 71 71 71 71;";

    private static TinString even(String words) {
        TinString x = Check.with(EVEN + words);
        x.line(0, 0, 1, 10);
        return x;
    }

    private static void promise16() {
        TinString x = new TinString();
        c.due("no words", x.table(0, 0), TinString.RANGE);
        x = Check.with("word a 1 1 1 1;");
        c.due("no line", x.table(0, 0), TinString.STATE);
        c.due("RANGE first", x.table(0, 1), TinString.RANGE);
        // LEVELS 4 and 6 in one BAND, alike elsewhere; noise 1: 4 is heard as 3, 4 (twice), 5: at 5 both are off by 1, the lesser one is taken.
        x = even("word a 5 5 5 4;word b 5 5 5 6;");
        c.due("level", x.level(0, 3), 4);
        c.due("level", x.level(1, 3), 6);
        c.due("a for a", x.table(0, 0), 256);
        c.due("a for b", x.table(0, 1), 0);
        c.due("b for a", x.table(1, 0), 64);
        c.due("b for b", x.table(1, 1), 192);
        for (int w : new int[] {-1, 2}) {
            c.due("RANGE", x.table(w, 0), TinString.RANGE);
            c.due("RANGE", x.table(0, w), TinString.RANGE);
        }
        // By noise 0 there is but one way, by noise 3 there are 65536.
        x = even("word a 5 5 5 4;word b 5 5 5 6;noise 0;");
        c.due("a for a", x.table(0, 0), 1);
        c.due("b for a", x.table(1, 0), 0);
        c.due("b for b", x.table(1, 1), 1);
        x = even("word a 5 5 5 4;word b 5 5 5 6;noise 3;");
        // 4 is heard as 1 .. 7 by 1 2 3 4 3 2 1 of 16: b from 6 on; 6 as 3 .. 9: a up to 5
        c.due("a for b", x.table(0, 1), 3 * 4096);
        c.due("a for a", x.table(0, 0), 13 * 4096);
        c.due("b for a", x.table(1, 0), 6 * 4096);
        c.due("b for b", x.table(1, 1), 10 * 4096);
        // What sounds alike is taken for the least number.
        x = even("word z 9 9 9 9;word a 5 0 5 4;word b 5 0 5 4;");
        c.due("b for a", x.table(2, 1), 256);
        c.due("b for b", x.table(2, 2), 0);
        // Off by all four together: heard just as a, b is off by 1 in one BAND; two BANDS of noise outdo one.
        x = even("word a 5 5 5 5;word b 6 6 5 5;");
        // b's first two BANDS heard (5 6 6 7 each): nearer b only if both are 6 or more, or one 7 and the other 5 (then off 2 to 2: a)
        c.due("b for b", x.table(1, 1), 9 * 16);
        c.due("b for a", x.table(1, 0), 7 * 16);
        // Below 0 it is 0, above 9 it is 9.
        x = even("word a 0 9 0 0;word b 1 8 0 0;");
        // a is heard as 0 0 0 1 and 9 9 9 8: b only by 1 and 8; else a (1 and 9: off 1 to 1)
        c.due("a for b", x.table(0, 1), 16);
        c.due("a for a", x.table(0, 0), 240);
        // A line that is slack: all WORDS sound as nothing.
        x.line(0, 0, 1, 0);
        c.due("slack", x.table(1, 0), 256);
        c.due("slack", x.table(1, 1), 0);
    }

    private static void promise17() {
        TinString x = Check.with("word a 1 1 1 1;word b 2 2 2 2;");
        c.due("no line", x.among(3, 0, 1), TinString.STATE);
        c.due("RANGE first", x.among(4, 0, 1), TinString.RANGE);
        x = even("word a 5 5 5 4;word b 5 5 5 5;word c 5 5 5 6;");
        // among all: 4 is heard as 3 4 4 5; c as 5 6 6 7
        c.due("all", x.among(7, 2, 2), 192);
        c.due("all", x.among(7, 2, 1), 64);
        c.due("all", x.among(7, 2, 0), 0);
        c.due("without b", x.among(5, 2, 2), 192);
        c.due("without b", x.among(5, 2, 0), 64);
        c.due("c alone", x.among(4, 2, 2), 256);
        c.due("b and c", x.among(6, 1, 1), 192);
        c.due("b and c", x.among(6, 1, 2), 64);
        int[][] wrong = {{0, 0, 0}, {1, 1, 1}, {1, 0, 1}, {1, 1, 0}, {8, 3, 3}, {9, 0, 0}, {-1, 0, 0}, {7, 3, 0}, {7, 0, 3}, {7, -1, 0},
            {7, 0, -1}, {Integer.MIN_VALUE, 0, 0}, {7, 32, 0}, {7, 0, 33}};
        for (int[] w : wrong) {
            c.due("RANGE", x.among(w[0], w[1], w[2]), TinString.RANGE);
        }
    }

    /** How far 9000 goes, a tenth lost in each yard, and is not below that. */
    private static int yardsDownTo(int least) {
        int v = 9000, yards = 0;
        while (v * 900 / 1000 >= least) {
            v = v * 900 / 1000;
            yards++;
        }
        return yards;
    }

    private static void promise18() {
        TinString x = Check.with("word a 1 1 1 1;");
        c.due("no line", x.longest(0, 1, 1), TinString.STATE);
        c.due("RANGE first", x.longest(1, 1, 1), TinString.RANGE);
        // One BAND alone, a tenth lost in a yard: 9000, 8100, 7290, 6561, 5904, 5313, 4781, .. The LEVELS of
        // b are 9 (9 yards and less off 18), of a 0 always; noise 0: b is b as long as its LEVEL is 1 at least (500).
        x = Check.with("stuff s 10 100 0 0 0;tin t 100 100 100 100;word a 0 0 0 0;word b 9 0 0 0;noise 0;");
        x.line(0, 0, 10, 10);
        int yards = yardsDownTo(500);
        int three = yardsDownTo(1500);
        c.due("b", x.longest(1, 1, 1), yards);
        c.due("b is not a further", x.line(0, 0, yards + 1, 10), 1);
        c.due("level", x.level(1, 0), 0);
        c.due("a", x.longest(0, 1, 1), 400);
        c.due("none of 1", x.longest(1, 0, 1), 400);
        c.due("above all", x.longest(0, 2, 1), TinString.NONE);
        // The yards of the LINE itself are not changed.
        c.due("level", x.level(1, 0), 0);
        // With noise 1, b of LEVEL l against a of 0: right are 192 at l = 2 (1 is taken for a), 256 from 3 on, at l = 1 192 too (heard 0 1 1 2: 192)
        x = Check.with("stuff s 10 100 0 0 0;tin t 100 100 100 100;word a 0 0 0 0;word b 9 0 0 0;noise 1;");
        x.line(0, 0, 10, 10);
        c.due("3 of 4", x.longest(1, 3, 4), yards);
        c.due("192 of 256", x.longest(1, 192, 256), yards);
        c.due("193 of 256", x.longest(1, 193, 256), three);
        c.due("as far", x.line(0, 0, three, 10), 1);
        c.due("as far", x.level(1, 0), 3);
        c.due("further", x.line(0, 0, three + 1, 10), 1);
        c.due("further", x.level(1, 0), 2);
        c.due("50000 of 65536", x.longest(1, 50000, 65536), three);
        c.due("65536 of 65536", x.longest(1, 65536, 65536), three);
        c.due("1 of 65536", x.longest(1, 1, 65536), yards);
        // With one yard alone, and just after that yard was asked for; all is lost in the second.
        x = Check.with("stuff s 10 944 0 0 0;tin t 100 100 100 100;word a 0 0 0 0;word b 9 0 0 0;noise 0;");
        x.line(0, 0, 1, 10);
        c.due("level of one yard", x.level(1, 0), 1);
        c.due("table of one yard", x.table(1, 1), 1);
        c.due("one yard", x.longest(1, 1, 1), 1);
        c.due("one yard", x.longest(1, 1, 1), 1);
        c.due("the other", x.longest(0, 1, 1), 400);
        // All LEVELS change at once: of one yard 3 and 2, of two 0 and 0.
        x = Check.with("stuff s 10 800 800 800 800;tin t 100 100 100 100;word a 9 9 9 9;word b 5 5 5 5;noise 0;");
        x.line(0, 0, 1, 10);
        c.due("one yard", x.longest(1, 1, 1), 1);
        x = Check.with("stuff s 10 100 0 0 0;tin t 100 100 100 100;word a 0 0 0 0;word b 9 0 0 0;noise 1;");
        // NONE, if not with one yard: snapped, so that b sounds as a.
        x.line(0, 0, 10, 11);
        c.due("snapped", x.longest(1, 1, 65536), TinString.NONE);
        int[][] wrong = {{2, 1, 1}, {-1, 1, 1}, {0, -1, 1}, {0, 65537, 1}, {0, 0, 0}, {0, 0, -1}, {0, 0, 65537}};
        for (int[] w : wrong) {
            c.due("RANGE", x.longest(w[0], w[1], w[2]), TinString.RANGE);
        }
    }

    private static void promise19() {
        TinString x = new TinString();
        c.due("STATE ahead of NONE", x.best(0), TinString.STATE);
        c.due("RANGE first", x.best(2), TinString.RANGE);
        c.due("RANGE first", x.best(-1), TinString.RANGE);
        x = Check.with(EVEN);
        c.due("no words", x.best(0), TinString.NONE);
        c.due("no words", x.best(1), TinString.NONE);
        c.due("RANGE ahead of NONE", x.best(2), TinString.RANGE);
        // STUFF 1 and 2 keep the words apart, 0 loses all, 3 snaps.
        x = Check.with("stuff a 50 999 999 999 999;stuff b 50 0 0 0 0;stuff c 50 0 0 0 0;stuff d 19 0 0 0 0;"
            + "tin t 10 10 10 10;tin u 30 30 30 30;tin v 100 100 100 100;tin w 90 90 90 90;word p 1 1 1 1;word q 4 4 4 4;");
        x.line(0, 2, 3, 20);
        c.due("stuff", x.best(0), 1);
        c.due("by stuff 0 all tins are alike", x.best(1), 0);
        c.due("the line stays", x.bears(0), 50);
        x.line(3, 2, 3, 20);
        c.due("snapped", x.best(1), 0);
        c.due("the line stays", x.bears(0), 19);
        c.due("stuff", x.best(0), 1);
        x.line(1, 0, 3, 20);
        // With tin 2: 2 and 8, with tin 3: 1 and 6; of alike ones the least
        c.due("tin", x.best(1), 2);
        // 900 times 80 of a hundred, times 10 of a hundred
        c.due("the tin stays", x.through(9, 0), 72);
        // The least of all words' ways counts, not their sum.
        x = Check.with("stuff a 50 0 999 0 0;stuff b 50 999 0 0 0;tin t 71 71 71 71;word p 0 0 0 0;word q 2 1 0 0;noise 1;");
        x.line(0, 0, 1, 25);
        c.due("p by a", x.table(0, 0), 256);
        c.due("q by a", x.table(1, 1), 192);
        x.line(1, 0, 1, 25);
        c.due("p by b", x.table(0, 0), 192);
        c.due("q by b", x.table(1, 1), 192);
        c.due("alike by their least", x.best(0), 0);
    }

    private static void promise20() {
        TinString x = Check.with(EVEN + "loop l 1 9 9 9 9;loop m 1 1 1 1 1;loop n 3 3 3 3 3;");
        c.due("no bend", x.bestLoop(0), TinString.RANGE);
        x.bend(-1);
        c.due("no words", x.bestLoop(0), TinString.NONE);
        c.due("RANGE ahead of NONE", x.bestLoop(1), TinString.RANGE);
        c.due("RANGE ahead of NONE", x.bestLoop(-1), TinString.RANGE);
        x = Check.with(EVEN + "word a 1 1 1 1;");
        x.bend(-1);
        c.due("no loops", x.bestLoop(0), TinString.NONE);
        x = Check.with("word a 1 1 1 1;loop l 1 1 1 1 1;");
        x.bend(0);
        c.due("no line", x.bestLoop(0), TinString.STATE);
        x = even("word p 1 1 1 1;word q 9 9 9 9;loop l 1 9 9 9 9;loop m 1 1 1 1 1;loop n 3 3 3 3 3;");
        x.bend(-1);
        x.bend(2);
        c.due("behind a bare one all are alike", x.bestLoop(1), 0);
        c.due("best", x.bestLoop(0), 1);
        c.due("the bend stays bare", x.through(9, 0), 0);
        x.straighten();
        x.bend(0);
        c.due("through loop 0", x.through(9, 0), 6390 * 20 / 100 * 71 / 100);
        c.due("best", x.bestLoop(0), 1);
        c.due("the bend stays", x.through(9, 0), 6390 * 20 / 100 * 71 / 100);
    }

    private static void promise21() {
        TinString x = new TinString();
        c.due("no words", x.list(1), TinString.RANGE);
        x = Check.with("word a 1 1 1 1;");
        c.due("no line", x.list(1), TinString.STATE);
        c.due("RANGE first", x.list(2), TinString.RANGE);
        c.due("RANGE first", x.list(0), TinString.RANGE);
        // a and b are near, c and d as well; e is as a
        x = even("word a 2 2 2 2;word b 2 2 2 3;word c 9 9 9 9;word d 9 9 9 8;word e 2 2 2 2;");
        c.due("one: all are alike", x.list(1), 1);
        c.due("two: far ones", x.list(2), 5);
        // of three two are near: heard 2 3 3 4 for b: 192 with a and c; a: 3 only: 192 ..
        c.due("three", x.list(3), 7);
        // four: a b c d have 192 at least; any with e and a none for e
        c.due("four", x.list(4), 15);
        c.due("five", x.list(5), 31);
        c.due("too many", x.list(6), TinString.RANGE);
        c.due("below", x.list(-1), TinString.RANGE);
        x = even("word a 5 5 5 5;word b 5 5 5 5;word c 5 5 5 6;");
        c.due("not the two alike", x.list(2), 5);
        // a is between b and c: 2 of 4; with b and d all have 3 of 4 at least
        x = even("word a 5 5 5 5;word b 5 5 5 4;word c 5 5 5 6;word d 9 9 9 9;");
        c.due("the first word counts too", x.list(3), 11);
    }

    /** Each BAND by itself: words that tell what was drawn for it, held against draws made here. */
    private static void drawn() {
        for (int b = 0; b < 4; b++) {
            StringBuilder words = new StringBuilder();
            for (int w = 0; w < 6; w++) {
                words.append("word ").append((char) ('a' + w));
                for (int i = 0; i < 4; i++) {
                    words.append(' ').append(i == b ? 2 + w : 5);
                }
                words.append(';');
            }
            for (int noise = 0; noise <= 3; noise++) {
                TinString x = even(words + "noise " + noise + ";");
                for (int i = 0; i < 100; i++) {
                    int seed = i < 50 ? i : i * 21474836;
                    long s = seed;
                    for (int k = 0; k <= b; k++) {
                        s = (s * 1103515245L + 12345L) & 0x7fffffffL;
                    }
                    int way = (int) ((s >> 16) % ((noise + 1) * (noise + 1)));
                    int[] first = {0, 1, 3, 6, 10, 13, 15};
                    int[][] starts = {{0}, {0, 1, 3}, {0, 1, 3, 6, 8}, first};
                    int v = 0;
                    while (v < 2 * noise && starts[noise][v + 1] <= way) {
                        v++;
                    }
                    // Word d is of LEVEL 5 in that BAND; the words are of 2 to 7.
                    int heard = Math.min(7, Math.max(2, 5 + v - noise));
                    c.due("band " + b + " noise " + noise + " seed " + seed, x.said(3, seed), heard - 2);
                }
            }
        }
    }

    private static void promise22() {
        TinString x = Check.with("word a 1 1 1 1;");
        c.due("no line", x.said(0, 0), TinString.STATE);
        c.due("RANGE first", x.said(0, -1), TinString.RANGE);
        c.due("RANGE first", x.said(1, 0), TinString.RANGE);
        x = even("word a 5 5 5 4;word b 5 5 5 5;word c 5 5 5 6;word d 6 5 5 5;");
        c.due("RANGE", x.said(4, 0), TinString.RANGE);
        c.due("RANGE", x.said(0, Integer.MIN_VALUE), TinString.RANGE);
        // seed 0: s = 12345, then 1406932606, 654583775, 1449466924; over 65536: 0, 21468, 9988, 22117; of 4: 0, 0, 0, 1:
        // -1 -1 -1 0. b is heard as 4 4 4 5: from a 1 1 1 1, b 1 1 1 0, c 1 1 1 1, d 2 1 1 0
        c.due("b by 0", x.said(1, 0), 1);
        // c is heard as 4 4 4 6: from b off 4, from c 3
        c.due("c by 0", x.said(2, 0), 2);
        // d is heard as 5 4 4 5: from b 2, from d 3
        c.due("d by 0", x.said(3, 0), 1);
        // seed 1: s = 1103527590, 377401575, 662824084, 1147902781: 16838, 5758, 10113, 17515; of 4: 2, 2, 1, 3: 0 0 0 1
        c.due("a by 1", x.said(0, 1), 1);
        c.due("b by 1", x.said(1, 1), 2);
        c.due("c by 1", x.said(2, 1), 2);
        // heard 6 5 5 6: from b 2, c 1, d 1
        c.due("d by 1", x.said(3, 1), 2);
        drawn();
        // By noise 0 each is taken rightly; by the greatest seed too.
        x = even("word a 5 5 5 4;word b 5 5 5 5;word c 5 5 5 6;word d 6 5 5 5;noise 0;");
        for (int w = 0; w < 4; w++) {
            c.due("still", x.said(w, 1), w);
            c.due("still", x.said(w, Integer.MAX_VALUE), w);
        }
        // By noise 3 all of -3 .. 3 must come, as often as their ways tell: LEVEL 5 in a BAND, the words 2 .. 8 in it.
        x = even("word a 2 5 5 5;word b 3 5 5 5;word c 4 5 5 5;word d 5 5 5 5;word e 6 5 5 5;word f 7 5 5 5;noise 3;");
        int[] got = new int[6];
        for (int i = 0; i < 480; i++) {
            int w = x.said(3, i * 4473923);
            if (w >= 0 && w < 6) {
                got[w]++;
            }
        }
        int[] ways = {1, 2, 3, 4, 3, 3};
        for (int w = 0; w < 6; w++) {
            int due = 30 * ways[w];
            c.due("word " + w + " comes " + got[w] + " times of about " + due, got[w] > due / 2 && got[w] < due * 2 ? 1 : 0, 1);
        }
    }

    public static void main(String[] args) {
        promise16();
        promise17();
        promise18();
        promise19();
        promise20();
        promise21();
        promise22();
        c.end();
    }
}
