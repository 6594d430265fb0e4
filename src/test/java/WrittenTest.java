/** Promises 36 to 40: what was WRITTEN, the LAWS that FIT, who LISTENED, counts. */
public final class WrittenTest {
    private static final Check c = new Check();

    private static final String WORDS = "word a 0 0 0 0;word b 9 0 0 0;";

    private static void promises36and37() {
        TinString x = new TinString();
        c.due("no words", x.write(0, 0, 0), TinString.RANGE);
        c.due("nothing written", x.right(0, 0, 0), TinString.RANGE);
        // neither STUFF nor TIN is needed to write
        x = Check.with(WORDS);
        for (int[] w : new int[][] {{-1, 0, 0}, {1000, 0, 0}, {0, 2, 0}, {0, 0, 2}, {0, -1, 0}, {0, 0, -1}}) {
            c.due("RANGE", x.write(w[0], w[1], w[2]), TinString.RANGE);
        }
        c.due("number", x.write(5, 0, 1), 0);
        c.due("falling", x.write(4, 0, 1), TinString.RANGE);
        c.due("the same step", x.write(5, 1, 1), 1);
        for (int[] w : new int[][] {{4, 0, 0}, {1000, 0, 0}, {5, 2, 0}, {5, -1, 0}, {5, 0, 2}, {5, 0, -1}}) {
            c.due("RANGE", x.right(w[0], w[1], w[2]), TinString.RANGE);
        }
        c.due("right", x.right(5, 0, 0), 1);
        c.due("right again", x.right(9, 0, 0), 2);
        c.due("the other", x.right(9, 1, 0), 1);
        c.due("steps are one row", x.write(8, 0, 0), TinString.RANGE);
        c.due("steps are one row", x.write(9, 0, 0), 2);
        c.due("written", x.count(1), 3);
        c.due("put right", x.count(2), 3);
        for (int i = 3; i < 20; i++) {
            c.due("number", x.write(10, 0, 0), i);
        }
        c.due("the 21st", x.write(500, 0, 0), TinString.FULL);
        c.due("RANGE ahead of FULL", x.write(500, 2, 0), TinString.RANGE);
        c.due("RANGE ahead of FULL", x.write(9, 0, 0), TinString.RANGE);
        c.due("a refused one tells no step", x.right(10, 2, 1), 1);
        for (int i = 2; i <= 17; i++) {
            c.due("often", x.right(999, 2, 1), i);
        }
        c.due("20 in all", x.count(2), 20);
        c.due("the 21st", x.right(999, 3, 1), TinString.FULL);
        c.due("RANGE ahead of FULL", x.right(998, 3, 1), TinString.RANGE);
        c.due("RANGE ahead of FULL", x.right(999, 20, 1), TinString.RANGE);
        c.due("written", x.count(1), 20);
    }

    private static void promise38() {
        TinString x = new TinString();
        c.due("no line", x.fit(0, 0), TinString.STATE);
        for (int[] w : new int[][] {{-1, 0}, {1000, 0}, {0, 3}, {0, -1}}) {
            c.due("RANGE first", x.fit(w[0], w[1]), TinString.RANGE);
        }
        x = Check.with("stuff s 9 0 0 0 0;stuff t 9 0 0 0 0;tin t 1 1 1 1;");
        c.due("nothing known: all", x.fit(0, 0), 40);
        c.due("nothing known", x.fit(0, 1), 0);
        c.due("nothing known: alike ones", x.fit(999, 2), 0);
        // 9000 less 3 of a hundred a yard (STUFF 0), 1 of a hundred (STUFF 1): noise 0, b is written for b where its LEVEL is 1 at least.
        x = Check.with("stuff s 9 30 0 0 0;stuff t 9 10 0 0 0;tin t 100 100 100 100;noise 0;" + WORDS);
        x.line(0, 0, 33, 9);
        int[] last = new int[2];
        for (int s = 0; s < 2; s++) {
            int v = 9000;
            for (int yards = 1; yards <= 200; yards++) {
                v = v * (s == 0 ? 970 : 990) / 1000;
                if (v >= 500 && yards % 10 == 0) {
                    last[s] = yards / 10;
                }
            }
        }
        c.due("write", x.write(10, 1, 1), 0);
        c.due("as known ahead of it", x.fit(9, 0), 40);
        c.due("fits", x.fit(10, 0), last[0] + last[1]);
        c.due("least", x.fit(10, 1), 0);
        c.due("likeliest of alike ones", x.fit(10, 2), 0);
        // told as a: where it is too faint
        c.due("right", x.right(20, 0, 0), 1);
        c.due("as it was known", x.fit(19, 0), last[0] + last[1]);
        c.due("as it is known", x.fit(20, 0), 40 - last[0] - last[1]);
        c.due("least", x.fit(20, 1), last[0]);
        c.due("likeliest", x.fit(20, 2), last[0]);
        c.due("later", x.fit(999, 0), 40 - last[0] - last[1]);
        // and b again, at the same step: what was told last holds
        c.due("right", x.right(20, 0, 1), 2);
        c.due("as it is known", x.fit(20, 0), last[0] + last[1]);
        // a written as b never fits by noise 0
        c.due("write", x.write(30, 0, 1), 1);
        c.due("none", x.fit(30, 0), 0);
        c.due("none", x.fit(30, 1), TinString.NONE);
        c.due("none", x.fit(30, 2), TinString.NONE);
        c.due("how many ahead of that", x.fit(20, 0) > 1 ? 1 : 0, 1);
        c.due("without it", x.fit(29, 0), last[0] + last[1]);
        // the LINE stays as it was
        c.due("yards", x.through(9, 0), through(33, 970));
        x = Check.with("stuff s 9 30 0 0 0;stuff t 9 10 0 0 0;tin t 100 100 100 100;noise 0;" + WORDS);
        x.line(1, 0, 33, 9);
        x.write(0, 1, 1);
        c.due("fits", x.fit(0, 0), last[0] + last[1]);
        c.due("stuff and yards", x.through(9, 0), through(33, 990));
    }

    /** From 10 YARDS on to 20 all LEVELS fall: 3 and 1, 0 and 0. */
    private static void allAtOnce() {
        TinString x = Check.with("stuff s 9 150 150 150 150;tin t 100 100 100 100;noise 0;word a 9 9 9 9;word b 5 5 5 5;");
        x.line(0, 0, 10, 9);
        x.write(0, 1, 1);
        c.due("b at 10 yards alone", x.fit(0, 0), 1);
        x.right(1, 0, 0);
        c.due("a from 20 yards on", x.fit(1, 0), 19);
        c.due("a from 20 yards on", x.fit(1, 1), 1);
        c.due("a from 20 yards on", x.fit(1, 2), 1);
    }

    private static int through(int yards, int keeps) {
        int v = 9000;
        for (int i = 0; i < yards; i++) {
            v = v * keeps / 1000;
        }
        return v;
    }

    /** LIKELIEST: products, each pair as often as it is known, beyond what a long (or a double) tells apart. */
    private static void likeliest() {
        // b at LEVEL 1 or 2 is taken for a by 64 of 256, for b by 192; at 3 and above always for b; at 0 always for a.
        TinString x = Check.with("stuff s 9 30 0 0 0;tin t 100 100 100 100;noise 1;" + WORDS);
        x.line(0, 0, 10, 9);
        x.write(1, 1, 0);
        x.write(1, 1, 1);
        int first = -1, many = 0, loudest = -1;
        for (int law = 0; law < 20; law++) {
            int level = Math.min(9, through(10 * law + 10, 970) / 500);
            if (level == 1 || level == 2) {
                many++;
                first = first < 0 ? law : first;
            }
            loudest = level > 2 ? law : loudest;
        }
        c.due("there are such", first > 0 ? 1 : 0, 1);
        c.due("both ways: fits", x.fit(1, 0), many);
        c.due("both ways: least", x.fit(1, 1), first);
        c.due("both ways: likeliest", x.fit(1, 2), first);
        // twenty of 65536 ways: 2 to the 320th, against one of 65535 at most
        x = Check.with("stuff s 9 30 30 30 30;stuff t 9 0 0 0 0;stuff u 9 0 0 0 0;tin t 100 100 100 100;noise 3;word a 0 0 0 0;word b 9 9 9 9;");
        x.line(0, 0, 10, 9);
        for (int i = 0; i < 20; i++) {
            x.write(1, 1, 1);
        }
        c.due("all where b has its way", x.fit(1, 1), 0);
        c.due("likeliest", x.fit(1, 2), 0);
        // each as often as it was: law 20 (level 4, so b is b by 15 of 16 ways in the first BAND, a by 1)
        x = Check.with("stuff s 9 999 0 0 0;stuff t 9 0 0 0 0;tin t 100 100 100 100;noise 3;word a 0 0 0 0;word b 2 0 0 0;word c 4 0 0 0;");
        x.line(1, 0, 10, 9);
        int right = x.table(1, 1), wrong = x.table(1, 0);
        c.due("right is likelier", right > wrong && wrong > 0 ? 1 : 0, 1);
        x.write(1, 1, 0);
        c.due("once a: by law 0 b is always a", x.fit(1, 2), 0);
        x.write(2, 1, 1);
        c.due("b too: only STUFF 1", x.fit(2, 1), 20);
        c.due("b too: only STUFF 1", x.fit(2, 2), 20);
    }

    /** How often each is known decides: one pair nine times and the other once, then the other way round. */
    private static void often() {
        // b's LEVEL is 3 by law 0 (8 of 9 ways are right), 2 by law 1 (6 of 9), at last 0.
        String street = "stuff s 9 20 0 0 0;stuff t 9 999 0 0 0;tin t 100 100 100 100;noise 2;word a 0 0 0 0;word b 2 0 0 0;";
        int[] likeliest = new int[2];
        for (int as = 0; as < 2; as++) {
            TinString x = Check.with(street);
            x.line(0, 0, 10, 9);
            x.write(0, 1, 1 - as);
            for (int i = 0; i < 9; i++) {
                x.write(0, 1, as);
            }
            java.math.BigInteger most = java.math.BigInteger.ZERO;
            int best = -1;
            for (int law = 0; law < 40; law++) {
                int[] ways = waysByLaw(street, law);
                java.math.BigInteger p = java.math.BigInteger.valueOf(ways[as]).pow(9)
                    .multiply(java.math.BigInteger.valueOf(ways[1 - as]));
                if (p.compareTo(most) > 0) {
                    most = p;
                    best = law;
                }
            }
            likeliest[as] = best;
            c.due("likeliest with " + as + " nine times", x.fit(0, 2), best);
        }
        c.due("nine times a", likeliest[0], 1);
        c.due("nine times b", likeliest[1], 0);
    }

    /** Products that are alike, but for the order of their factors, are alike: law 0, not 20, whichever was told first. */
    private static void alike() {
        // By 10 YARDS the LEVEL of c (of b by STUFF 1) is 2: right are 6 of 9 ways, 4374; all 6561 ways of the other.
        String street = "stuff s 9 0 183 0 0;stuff t 9 183 0 0 0;tin t 100 100 100 100;noise 2;"
            + "word a 0 0 0 0;word b 9 0 0 0;word c 0 9 0 0;";
        for (int first = 1; first <= 2; first++) {
            for (int many = 1; many <= 10; many++) {
                TinString x = Check.with(street);
                for (int stuff = 0; stuff < 2; stuff++) {
                    x.line(stuff, 0, 10, 9);
                    c.due("the strong one", x.table(1 + stuff, 1 + stuff), 6561);
                    c.due("the faint one", x.table(2 - stuff, 2 - stuff), 4374);
                }
                for (int i = 0; i < many; i++) {
                    x.write(0, first, first);
                }
                for (int i = 0; i < many; i++) {
                    x.write(0, 3 - first, 3 - first);
                }
                c.due("the least of alike ones", x.fit(0, 2), 0);
                // A word more makes the one or the other likelier.
                if (many < 9) {
                    x.write(0, 2, 2);
                    c.due("c is better by STUFF 1", x.fit(0, 2), 20);
                    x.write(1, 1, 1);
                    x.write(1, 1, 1);
                    c.due("b is better by STUFF 0", x.fit(1, 2), 0);
                }
            }
        }
    }

    private static int[] waysByLaw(String street, int law) {
        TinString x = Check.with(street);
        x.line(law / 20, 0, law % 20 * 10 + 10, 9);
        return new int[] {x.table(1, 0), x.table(1, 1)};
    }

    private static int listened(String row, int sent, int came, int slack) {
        TinString x = new TinString();
        Check.lay(x, row);
        int got = x.listened(sent, came, slack);
        c.due("THE TAPE is empty behind it", x.count(6), 0);
        return got;
    }

    private static void promise39() {
        c.due("by 10 and 10", listened("10 20 10 0", 1000, 900, 0), 5);
        c.due("with a slack", listened("10 20 10 0", 1000, 900, 100), 15);
        c.due("with less slack", listened("10 20 10 0", 1000, 900, 99), 5);
        c.due("off above", listened("10 20 10 0", 1000, 999, 1), 8);
        // 333 times 67 over 100 is 223.11
        c.due("cut", listened("33 100 0 50", 333, 223, 0), 1);
        c.due("cut", listened("33 100 0 50", 333, 224, 0), 0);
        c.due("all of it", listened("33 100 0 50", 333, 0, 0), 2);
        c.due("half of it", listened("33 100 0 50", 333, 166, 0), 8);
        c.due("most", listened("0 100 0 100", 99999, 99999, 0), 5);
        c.due("most slack", listened("0 100 0 100", 99999, 99999, 99999), 15);
        c.due("least", listened("0 1 2 3", 0, 0, 0), 15);
        for (String row : new String[] {"", "1 2 3", "1 2 3 4 5", "1 2 3 101", "101 2 3 4", "1 2 3;4", "a 1 2 3", "1 2 3 4 a", "1 2 3 00004"}) {
            c.due("NONE [" + row + "]", listened(row, 1, 1, 1), TinString.NONE);
            c.due("RANGE ahead of NONE", listened(row, -1, 1, 1), TinString.RANGE);
        }
        for (int wrong : new int[] {-1, 100000, Integer.MAX_VALUE, Integer.MIN_VALUE}) {
            c.due("RANGE", listened("1 2 3 4", wrong, 1, 1), TinString.RANGE);
            c.due("RANGE", listened("1 2 3 4", 1, wrong, 1), TinString.RANGE);
            c.due("RANGE", listened("1 2 3 4", 1, 1, wrong), TinString.RANGE);
        }
    }

    private static void promise40() {
        TinString x = Check.with("house a 0 0;house b 1 1;" + WORDS);
        x.write(1, 0, 0);
        x.write(1, 0, 0);
        x.write(1, 0, 0);
        x.right(1, 0, 1);
        x.right(1, 0, 1);
        x.wish(0, 1);
        x.stretch(9);
        x.tick(11);
        Check.lay(x, "abcdefg");
        int[] want = {4, 3, 2, 1, 9, 11, 7};
        for (int what = 0; what < want.length; what++) {
            c.due("count " + what, x.count(what), want[what]);
        }
        for (int what : new int[] {-1, 7, 8, Integer.MAX_VALUE, Integer.MIN_VALUE}) {
            c.due("count " + what, x.count(what), TinString.NONE);
        }
    }

    public static void main(String[] args) {
        promises36and37();
        promise38();
        allAtOnce();
        likeliest();
        often();
        alike();
        promise39();
        promise40();
        c.end();
    }
}
