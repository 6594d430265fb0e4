/** Promises 31 to 35: HOUSES, WISHES, the LEAST STRING; TAPS. */
public final class HousesTest {
    private static final Check c = new Check();

    private static void promise31() {
        TinString x = new TinString();
        c.due("no houses", x.yards(0, 1), TinString.RANGE);
        x = Check.with("house a 0 0;house b 3 4;house c 99 99;house d 0 1;house e 1 1;");
        c.due("3 4 5", x.yards(0, 1), 5);
        c.due("and back", x.yards(1, 0), 5);
        // 19602 is above 140 squared
        c.due("the longest", x.yards(0, 2), 141);
        c.due("1", x.yards(0, 3), 1);
        c.due("the root of 2", x.yards(0, 4), 2);
        // 96 and 95: 18241, the root 135.05..
        c.due("136", x.yards(1, 2), 136);
        c.due("no such", x.yards(0, 5), TinString.RANGE);
        c.due("no such", x.yards(-1, 0), TinString.RANGE);
        c.due("alike", x.yards(2, 2), TinString.RANGE);
        c.due("alike and no such", x.yards(7, 7), TinString.RANGE);
        // posts: between, at an end, beyond, beside
        x = Check.with("house a 2 2;house b 8 5;house c 8 8;house d 2 8;house e 0 8;post 4 3;post 8 8;post 10 6;post 2 5;");
        c.due("between", x.yards(0, 1), TinString.NONE);
        c.due("between", x.yards(1, 0), TinString.NONE);
        c.due("at an end", x.yards(1, 2), TinString.NONE);
        c.due("at an end", x.yards(2, 1), TinString.NONE);
        c.due("at an end", x.yards(4, 2), TinString.NONE);
        c.due("at an end", x.yards(2, 4), TinString.NONE);
        c.due("upright", x.yards(0, 3), TinString.NONE);
        c.due("level", x.yards(3, 4), 2);
        c.due("beside", x.yards(1, 3), 7);
        x = Check.with("house a 2 2;house b 4 3;post 0 1;post 6 4;post 3 2;post 3 3;");
        c.due("beyond both ends and beside", x.yards(0, 1), 3);
        x = Check.with("house a 5 9;house b 5 3;post 5 2;post 5 10;post 4 5;");
        c.due("above and below", x.yards(0, 1), 6);
        x = Check.with("house a 5 9;house b 5 3;post 5 3;");
        c.due("at the other end", x.yards(0, 1), TinString.NONE);
        c.due("at the other end", x.yards(1, 0), TinString.NONE);
        // a step aside of each end, and a step beyond it
        x = Check.with("house a 5 5;house b 7 9;post 5 4;post 4 3;post 7 10;post 8 11;");
        c.due("near the ends", x.yards(0, 1), 5);
        c.due("near the ends", x.yards(1, 0), 5);
        x = Check.with("house a 5 5;house b 9 5;post 4 5;post 10 5;post 9 6;post 5 4;");
        c.due("near the ends", x.yards(0, 1), 4);
        c.due("near the ends", x.yards(1, 0), 4);
        x = Check.with("house a 90 1;house b 2 89;post 46 45;");
        c.due("falling", x.yards(0, 1), TinString.NONE);
    }

    private static void promise32() {
        TinString x = new TinString();
        c.due("no houses", x.wish(0, 1), TinString.RANGE);
        x = Check.with("house a 0 0;house b 0 1;house c 0 2;");
        c.due("wish", x.wish(0, 1), 1);
        c.due("again", x.wish(0, 1), 1);
        c.due("the other way round", x.wish(1, 0), 1);
        c.due("wish", x.wish(2, 1), 2);
        c.due("alike", x.wish(1, 1), TinString.RANGE);
        c.due("no such", x.wish(0, 3), TinString.RANGE);
        c.due("no such", x.wish(-1, 0), TinString.RANGE);
        c.due("wish", x.wish(0, 2), 3);
        c.due("count", x.count(3), 3);
        x = Check.with("house a 0 0;house b 0 1;house c 0 2;house d 0 3;house e 0 4;");
        int many = 0;
        for (int a = 0; a < 5; a++) {
            for (int b = 0; b < a; b++) {
                many++;
                c.due("wish", x.wish(a, b), many);
            }
        }
    }

    private static void promise33() {
        TinString x = new TinString();
        c.due("no wish: no string", x.least(1, 0), 0);
        c.due("no wish: no string", x.least(4, 1), 0);
        for (int[] w : new int[][] {{0, 0}, {5, 0}, {-1, 1}, {1, 2}, {1, -1}}) {
            c.due("RANGE", x.least(w[0], w[1]), TinString.RANGE);
        }
        // In a row: 0 and 4 far ends; the strings 0-1 1-2 2-3 3-4 are bits 0 4 7 9, 0-4 is bit 3.
        x = Check.with("house a 0 0;house b 0 10;house c 0 20;house d 0 30;house e 0 40;");
        x.wish(4, 0);
        c.due("one string", x.least(1, 0), 40);
        c.due("one string", x.least(1, 1), 8);
        // alike in yards: 0-1 and 1-4 (bits 0, 6: 65), 0-4 (8): the least bits
        c.due("two strings", x.least(2, 1), 8);
        x.wish(0, 1);
        // 0-1 and 1-4: 1 + 64; 0-1 and 0-4 is 50
        c.due("two strings", x.least(2, 0), 40);
        c.due("two strings", x.least(2, 1), 65);
        c.due("one string each", x.least(1, 0), 50);
        c.due("one string each", x.least(1, 1), 9);
        x.wish(1, 2);
        x.wish(2, 3);
        // 0-1 1-2 2-3 and 3-4 over 4; over 3: 4 must be tied to 2 (30: 20 more) or 1 ..
        c.due("four", x.least(4, 0), 40);
        c.due("four", x.least(4, 1), 1 + 16 + 128 + 512);
        c.due("three", x.least(3, 0), 50);
        // 2-4 is bit 8
        c.due("three", x.least(3, 1), 1 + 16 + 128 + 256);
        c.due("all told as strings", x.least(1, 0), 40 + 10 + 10 + 10);
        c.due("all told as strings", x.least(1, 1), 8 + 1 + 16 + 128);
        // A post bars what is straight: over the corner it goes.
        x = Check.with("house a 0 0;house b 10 0;house c 5 5;post 5 0;");
        x.wish(0, 1);
        c.due("barred", x.least(1, 0), TinString.NONE);
        c.due("barred", x.least(1, 1), TinString.NONE);
        c.due("over c", x.least(2, 0), 16);
        c.due("over c", x.least(2, 1), 2 + 4);
        c.due("wishes stay", x.count(3), 1);
        c.due("a street takes them", Check.street(x, "house a 0 0;house b 10 0;"), 2);
        c.due("none", x.least(1, 0), 0);
    }

    private static int taps(String row) {
        TinString x = new TinString();
        Check.lay(x, row);
        int got = x.taps();
        c.due("THE TAPE behind [" + row + "]", x.count(6), 0);
        return got;
    }

    private static void promise34() {
        TinString x = new TinString();
        Check.lay(x, "5 9 1");
        c.due("once", x.taps(), 27);
        c.due("the tape is empty now", x.taps(), TinString.NONE);
        Check.lay(x, "5 9 1");
        c.due("again", x.taps(), 27);
        c.due("one", taps("7"), 7);
        c.due("one of 0", taps("0"), 0);
        c.due("two", taps("5 9"), 9 + 15);
        c.due("three", taps("5 9 1"), 9 + 3 * 6);
        c.due("alike ones", taps("1 1 1 1"), 1 + 3 + 3 + 5);
        c.due("digits and blanks", taps(" 0009\n\n0005 "), 9 + 15);
        // 16 of them last 1, 3 3, 5 5 5, 7 (5 times), 9 (5 of 8)
        c.due("sixteen", taps("1 1 1 1 1 1 1 1 1 1 1 1 1 1 1 1"), 1 + 6 + 15 + 35 + 45);
        c.due("sixteen", taps("9999 9999 9999 9999 9999 9999 9999 9999 9999 9999 9999 9999 9999 9999 9999 9999"), 9999 * 102);
        c.due("heaviest last", taps("1 2 3 4 5 6 7"), 7 + 18 + 15 + 20 + 15 + 10 + 7);
        for (String row : new String[] {"", "  \n", "1 1 1 1 1 1 1 1 1 1 1 1 1 1 1 1 1", "1;", "a", "1 a", "12345", "1 -1", "1,1", "00001"}) {
            c.due("[" + row + "]", taps(row), TinString.NONE);
        }
    }

    private static void promise35() {
        TinString x = new TinString();
        // s, ss, l, sss, sl, ls, ssss, ssl, sls, lss, ll, then those of 9: sssss
        int[][] want = {{1, 1, 0}, {3, 2, 0}, {3, 1, 1}, {5, 3, 0}, {5, 2, 1}, {5, 2, 2}, {7, 4, 0}, {7, 3, 1}, {7, 3, 2},
            {7, 3, 4}, {7, 2, 3}, {9, 5, 0}, {9, 4, 1}, {9, 4, 2}, {9, 4, 4}, {9, 3, 3}, {9, 4, 8}, {9, 3, 5}, {9, 3, 6}, {11, 6, 0}};
        for (int k = 0; k < want.length; k++) {
            for (int what = 0; what < 3; what++) {
                c.due("row " + k + " " + what, x.tapRow(k, what), want[k][what]);
            }
        }
        // 87 rows last 15 at most; so 87 is nine short ones, 88 seven short ones and a long one
        c.due("row 86 lasts", x.tapRow(86, 0), 15);
        c.due("row 86: llll", x.tapRow(86, 2), 15);
        c.due("row 86 has", x.tapRow(86, 1), 4);
        c.due("row 87 lasts", x.tapRow(87, 0), 17);
        c.due("row 87 has", x.tapRow(87, 1), 9);
        c.due("row 88 has", x.tapRow(88, 1), 8);
        c.due("row 88", x.tapRow(88, 2), 1);
        c.due("row 99 lasts", x.tapRow(99, 0), 17);
        // of those of 9 beats 55: ssss (from 0 on 5), .. number 12 is: sss (0 to 7 begin ssss), then 8 .. 12 begin sssl: the last of them
        c.due("row 99", x.tapRow(99, 2), 0b000111);
        c.due("row 99 has", x.tapRow(99, 1), 6);
        for (int[] w : new int[][] {{100, 0}, {-1, 0}, {0, 3}, {0, -1}, {Integer.MAX_VALUE, 2}}) {
            c.due("RANGE", x.tapRow(w[0], w[1]), TinString.RANGE);
        }
    }

    public static void main(String[] args) {
        promise31();
        promise32();
        promise33();
        promise34();
        promise35();
        c.end();
    }
}
