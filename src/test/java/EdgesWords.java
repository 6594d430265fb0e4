import java.math.BigInteger;

/** Boundary cases of term III and of promises 16 to 22: NOISE, TABLE, LONGEST, the best, LIST, SAID. */
final class EdgesWords {
    // A TIN of 71 takes 504 of a LOUD at both ends: the LEVEL of a WORD is as LOUD as it is said.
    private static final String EVEN = "stuff a 10 0 0 0 0;tin t 71 71 71 71;";

    private final Edges e;

    EdgesWords(Edges e) {
        this.e = e;
    }

    void all() {
        heard();
        bandsByThemselves();
        beyond();
        ears();
        table();
        among();
        longest();
        longestOfWays();
        longestRefused();
        best();
        bestLoop();
        list();
        said();
        saidInTheMiddle();
        drawn();
        state();
    }

    private static TinString even(String words) {
        TinString x = Check.with(EVEN + words);
        x.line(0, 0, 1, 10);
        return x;
    }

    /** A clause for a WORD of this LOUD in one BAND, and of another in the others. */
    private static String word(char name, int b, int loud, int others) {
        StringBuilder s = new StringBuilder("word ").append(name);
        for (int i = 0; i < 4; i++) {
            s.append(' ').append(i == b ? loud : others);
        }
        return s.append(';').toString();
    }

    private static int power(int base, int exponent) {
        return BigInteger.valueOf(base).pow(exponent).intValueExact();
    }

    private void heard() {
        e.says("III", "HEARD: in each BAND the LEVEL of the WORD that was said, and NOISE, each BAND by its own: with noise n: -n .. n, "
            + "each v of them (n and 1 less v without its sign) of (n and 1) squared ways");
        e.says("III", "TABLE: of all ways ((n and 1) to the eighth) with how many WORD a is taken for b.");
        for (int n = 0; n <= 3; n++) {
            TinString x = even("word a 5 5 5 5;noise " + n + ";");
            e.due("all ways of noise " + n, x.table(0, 0), power(n + 1, 8));
            // b is louder by d in one BAND: taken for a, when it is heard half as far off or less.
            for (int b = 0; b < 4; b++) {
                for (int d = 1; d <= 9; d++) {
                    x = even(word('a', b, 0, 5) + word('b', b, d, 5) + "noise " + n + ";");
                    int far = (d + 1) / 2;
                    int ways = far > n ? 0 : (n + 1 - far) * (n + 2 - far) / 2;
                    int rest = power(n + 1, 6);
                    e.due("b by " + d + " for a, noise " + n, x.table(1, 0), ways * rest);
                    e.due("b by " + d + " for b, noise " + n, x.table(1, 1), power(n + 1, 8) - ways * rest);
                    // And a for b, when heard nearer to b: the least number has the middle.
                    far = d / 2 + 1;
                    ways = far > n ? 0 : (n + 1 - far) * (n + 2 - far) / 2;
                    e.due("a by " + d + " for b, noise " + n, x.table(0, 1), ways * rest);
                    e.due("a by " + d + " for a, noise " + n, x.table(0, 0), power(n + 1, 8) - ways * rest);
                }
            }
        }
        TinString x = even("word a 5 5 5 5;");
        e.due("the noise that isn't told is 1", x.table(0, 0), 256);
    }

    private void bandsByThemselves() {
        e.says("III", "An EAR takes a row of four for the WORD whose own LEVELS are the least off by all four together");
        // Off by one in all four: a for b needs three BANDS of four heard one louder, b for a two of four one fainter.
        TinString x = even("word a 5 5 5 5;word b 6 6 6 6;");
        e.due("a for b", x.table(0, 1), 4 * 3 + 1);
        e.due("b for a", x.table(1, 0), 6 * 9 + 4 * 3 + 1);
        // One way of all: by 3 in each BAND, and then it is one nearer.
        x = even("word a 0 0 0 0;word b 5 6 6 6;noise 3;");
        e.due("a for b by one way", x.table(0, 1), 1);
        e.due("all others", x.table(0, 0), 65535);
        x = even("word b 6 6 6 6;word a 0 0 0 0;noise 3;");
        e.due("as far from both: the least number", x.table(1, 0), 1);
        x = even("word a 0 0 0 0;word b 6 6 6 6;noise 3;");
        e.due("as far from both: the least number", x.table(0, 1), 0);
        e.due("as far from both: the least number", x.table(1, 0), 1);
        x = even("word a 0 0 0 0;word b 9 9 9 9;noise 3;");
        e.due("the farthest", x.table(0, 1) + x.table(1, 0), 0);
    }

    private void beyond() {
        e.says("III", "below 0 it is 0, above 9 it is 9.");
        // Fainter than 0 it is just as near to 1, louder than 9 as near to 8, as 0 and 9 are.
        for (int n = 1; n <= 3; n++) {
            TinString x = even("word a 0 9 0 9;word b 1 8 0 9;noise " + n + ";");
            // a for b: by 1 at least in BAND 0 and -1 at most in BAND 1
            int half = n * (n + 1) / 2;
            int whole = (n + 1) * (n + 1);
            e.due("a for b", x.table(0, 1), half * half * whole * whole);
            // b (1, 8) for b: 0 at least in BAND 0, 0 at most in BAND 1
            e.due("b for b", x.table(1, 1), (whole - half) * (whole - half) * whole * whole);
        }
        TinString x = even("word a 0 0 0 0;word b 9 9 9 9;word c 9 0 9 0;noise 3;");
        for (int w = 0; w < 3; w++) {
            e.due("none is mistaken", x.table(w, w), 65536);
        }
    }

    private void ears() {
        e.says("III", "of alike ones the least.");
        TinString x = even(Edges.many("word # 3 4 5 6;", 6) + "noise 3;");
        for (int a = 0; a < 6; a++) {
            for (int b = 0; b < 6; b++) {
                e.due("taken for the least", x.table(a, b), b == 0 ? 65536 : 0);
            }
            e.due("the least of a set", x.among(63 & -1 << a, 5, a), 65536);
            e.due("by a seed", x.said(a, 77), 0);
        }
        // SLACK and SNAPPED: nothing is heard but NOISE, the least is taken.
        x = even("word a 1 1 1 1;word b 0 0 0 0;word c 9 9 9 9;");
        for (int pull : new int[] {0, 11}) {
            x.line(0, 0, 1, pull);
            e.due("pull " + pull, x.table(2, 0), 256);
            e.due("pull " + pull, x.table(1, 1), 0);
        }
    }

    private void table() {
        e.says("16", "TABLE: with how many ways WORD a is taken for b; RANGE");
        for (int words = 0; words <= 6; words++) {
            TinString x = even(Edges.many("word # % 9 0 9;", words) + "noise 0;");
            for (int a = -1; a <= 6; a++) {
                for (int b = -1; b <= 6; b++) {
                    boolean both = a >= 0 && b >= 0 && a < words && b < words;
                    e.due("table " + a + " " + b + " of " + words, x.table(a, b), !both ? Edges.RANGE : a == b ? 1 : 0);
                }
            }
            for (int w : new int[] {Edges.MOST, Edges.LEAST, 32, 64}) {
                e.due("table " + w, x.table(w, 0), Edges.RANGE);
                e.due("table " + w, x.table(0, w), Edges.RANGE);
            }
        }
    }

    private void among() {
        e.says("17", "The same among a set of WORDS (bits, a and b of it); RANGE");
        e.says("III", "(Among a set of WORDS: only these are thought of.)");
        for (int words = 0; words <= 4; words++) {
            for (int set = -2; set <= 1 << words + 1; set++) {
                TinString x = even(Edges.many("word # % 9 0 9;", words) + "noise 0;");
                for (int a = -1; a <= words; a++) {
                    for (int b = -1; b <= words; b++) {
                        if (set % 3 == 0 || a == b) {
                            boolean ok = set >= 0 && set < 1 << words && a >= 0 && b >= 0 && (set >> a & 1) == 1 && (set >> b & 1) == 1;
                            e.due("among " + set + " " + a + " " + b + " of " + words, x.among(set, a, b), !ok ? Edges.RANGE : a == b ? 1 : 0);
                        }
                    }
                }
            }
        }
        TinString x = even(Edges.many("word # % 9 0 9;", 6) + "noise 0;");
        e.due("all six", x.among(63, 5, 5), 1);
        e.due("a seventh", x.among(64, 6, 6), Edges.RANGE);
        e.due("a seventh", x.among(127, 0, 0), Edges.RANGE);
        for (int set : new int[] {-1, Edges.MOST, Edges.LEAST, Edges.LEAST + 1, 0}) {
            e.due("set " + set, x.among(set, 0, 0), Edges.RANGE);
        }
        // Shifts by 32 and 64 are those by 0.
        for (int w : new int[] {32, 64, -32, -64, Edges.MOST, Edges.LEAST}) {
            e.due("WORD " + w, x.among(1, w, 0), Edges.RANGE);
            e.due("WORD " + w, x.among(1, 0, w), Edges.RANGE);
        }
        // b is between a and c, where c is taken for it; without b for a.
        x = even("word a 5 5 5 3;word b 5 5 5 4;word c 5 5 5 5;");
        e.due("all", x.among(7, 2, 1), 64);
        e.due("all", x.among(7, 2, 0), 0);
        e.due("without b", x.among(5, 2, 0), 64);
        e.due("c alone", x.among(4, 2, 2), 256);
    }

    private void longest() {
        e.says("III", "LONGEST: the greatest YARDS 1 .. 400 with which a WORD is taken rightly (all WORDS are thought of) in u of w ways at least; "
            + "none if not with one of them.");
        // By 3 of a thousand a yard LOUD 2 is of LEVEL 1 for 399 yards, by 4 LOUD 3 for 400 just, by 944 LOUD 9 for one, by 945 for none.
        String[] words = {"word a 0 0 0 0;word b 2 0 0 0;", "word a 0 0 0 0;word b 3 0 0 0;", "word a 0 0 0 0;word b 9 0 0 0;"};
        int[][] due = {{0, 3, 399}, {1, 4, 400}, {2, 944, 1}, {2, 945, Edges.NONE}, {2, 0, 400}, {2, 999, Edges.NONE}};
        for (int[] d : due) {
            TinString x = Check.with("stuff s 9 " + d[1] + " 0 0 0;tin t 100 100 100 100;noise 0;" + words[d[0]]);
            for (int yards : new int[] {1, 400, 10}) {
                x.line(0, 0, yards, 9);
                e.due("by " + d[1], x.longest(1, 1, 1), d[2]);
                e.due("a is always a", x.longest(0, 1, 1), 400);
            }
            if (d[2] != Edges.NONE) {
                x.line(0, 0, d[2], 9);
                e.due("then it is rightly taken", x.table(1, 1), 1);
            }
            if (d[2] < 400) {
                x.line(0, 0, Math.max(1, d[2] + 1), 9);
                e.due("and not further", x.table(1, 1), 0);
            }
            int level = x.level(1, 0);
            x.longest(1, 1, 1);
            e.due("the LINE is as it was", x.level(1, 0), level);
            // Just behind a call by those very YARDS.
            x.line(0, 0, Math.max(1, d[2]), 9);
            x.table(1, 1);
            e.due("by " + d[1], x.longest(1, 1, 1), d[2]);
        }
        // Near by both LEVELS are 9 (of 17 and 9.9), far off both are 0: between them they differ.
        TinString x = Check.with("stuff s 9 10 0 0 0;tin t 100 100 100 100;noise 0;word a 9 0 0 0;word b 5 0 0 0;");
        x.line(0, 0, 1, 9);
        e.due("alike near by", x.table(1, 0), 1);
        int last = 0;
        int[] v = {9000, 5000};
        for (int yards = 1; yards <= 400; yards++) {
            v[0] = v[0] * 990 / 1000;
            v[1] = v[1] * 990 / 1000;
            last = Math.min(9, v[0] / 500) != Math.min(9, v[1] / 500) ? yards : last;
        }
        e.must("alike far off", last > 200 && last < 400);
        e.due("the last YARDS where they differ", x.longest(1, 1, 1), last);
    }

    private void longestOfWays() {
        e.says("18", "LONGEST for a WORD, u of w ways (0 .. 65536 each, w 1 at least); NONE");
        TinString x = even("word a 5 5 5 3;word b 5 5 5 5;noise 3;");
        // b by 2 for a: by -1 at most, 6 of 16: 40960 of 65536 are right.
        e.due("right ways", x.table(1, 1), 40960);
        int[][] due = {{40960, 65536, 400}, {40961, 65536, -1}, {40959, 65536, 400}, {5, 8, 400}, {6, 9, -1}, {0, 1, 400}, {0, 65536, 400},
            {1, 1, -1}, {1, 2, 400}, {65536, 1, -1}, {65536, 65536, -1}, {65535, 65536, -1}, {2, 1, -1}, {1, 65536, 400}, {32768, 65536, 400},
            {65536, 65535, -1}};
        for (int[] d : due) {
            e.due(d[0] + " of " + d[1], x.longest(1, d[0], d[1]), d[2]);
        }
        x = even("word a 5 5 5 5;noise 3;");
        e.due("all of all", x.longest(0, 65536, 65536), 400);
        e.due("all of all", x.longest(0, 1, 1), 400);
        e.due("half of all", x.longest(0, 32768, 65536), 400);
        e.due("all of one less", x.longest(0, 65536, 65535), Edges.NONE);
        e.due("one less of all", x.longest(0, 65535, 65536), 400);
        e.due("the least of the most", x.longest(0, 1, 65536), 400);
        e.due("the most of the least", x.longest(0, 65536, 1), Edges.NONE);
        // None at all are right: b is as a.
        x = even("word a 5 5 5 5;word b 5 5 5 5;noise 3;");
        e.due("0 of 1", x.longest(1, 0, 1), 400);
        e.due("1 of 65536", x.longest(1, 1, 65536), Edges.NONE);
    }

    private void longestRefused() {
        e.says("18", "RANGE");
        for (int words = 0; words <= 6; words++) {
            TinString x = even(Edges.many("word # % 9 0 9;", words) + "noise 0;");
            for (int w = -1; w <= 6; w++) {
                e.due("WORD " + w + " of " + words, x.longest(w, 0, 1), w >= 0 && w < words ? 400 : Edges.RANGE);
            }
        }
        TinString x = even("word a 5 5 5 5;");
        int[][] wrong = {{-1, 1}, {65537, 1}, {Edges.MOST, 1}, {Edges.LEAST, 1}, {0, 0}, {0, -1}, {0, 65537}, {0, Edges.MOST}, {0, Edges.LEAST}};
        for (int[] w : wrong) {
            e.due(w[0] + " of " + w[1], x.longest(0, w[0], w[1]), Edges.RANGE);
        }
    }

    private void best() {
        e.says("19", "BEST STUFF (kind 0), BEST TIN (1); NONE: there are no WORDS; RANGE");
        e.says("III", "BEST STUFF, BEST TIN: that by which, the rest of the LINE as it is, the least of all WORDS' ways to be taken rightly is greatest; "
            + "the least number of alike ones.");
        TinString x = Check.with(EVEN);
        for (int kind : new int[] {0, 1}) {
            e.due("no WORDS", x.best(kind), Edges.NONE);
        }
        for (int kind : new int[] {-1, 2, Edges.MOST, Edges.LEAST}) {
            e.due("kind " + kind, x.best(kind), Edges.RANGE);
        }
        // One keeps the WORDS apart, the k-th of four; or two alike do.
        for (int k = 0; k < 4; k++) {
            for (int l = k; l < 4; l++) {
                StringBuilder text = new StringBuilder("word a 0 0 0 0;word b 9 9 9 9;");
                for (int i = 0; i < 4; i++) {
                    int good = i == k || i == l ? 1 : 0;
                    text.append("stuff ").append((char) ('a' + i)).append(" 9").append(" 999 999 999 999;".replace("999", good == 1 ? "0" : "999"));
                    text.append("tin ").append((char) ('a' + i)).append(" 9 9 9 9;".replace("9", good == 1 ? "100" : "9"));
                }
                x = Check.with(text.toString());
                x.line(l, l, 1, 9);
                e.due("BEST STUFF", x.best(0), k);
                e.due("BEST TIN", x.best(1), k);
                e.due("the LINE is as it was", x.through(9, 0), 9000);
                // All are alike, where the rest of the LINE lets nothing by.
                x.bend(-1);
                e.due("all alike", x.best(0), 0);
                e.due("all alike", x.best(1), 0);
            }
        }
        lineStays();
        firstWordCounts();
        // One way more decides: b is told by 13 of 16 ways or 10 of 16 of noise 3.
        x = Check.with("word a 0 0 0 0;word b 2 0 0 0;noise 3;stuff s 9 500 0 0 0;stuff t 9 0 0 0 0;tin t 100 100 100 100;");
        x.line(0, 0, 1, 9);
        e.due("by LEVEL 2 the least is", x.table(1, 1), 40960);
        e.due("the stronger", x.best(0), 1);
        // By one WORD alone all are right, whichever it is.
        x = Check.with("word a 9 9 9 9;stuff s 9 999 0 0 0;stuff t 9 0 0 0 0;tin t 0 0 0 0;tin u 100 100 100 100;noise 0;");
        x.line(1, 1, 1, 9);
        e.due("one WORD", x.best(0), 0);
        e.due("one WORD", x.best(1), 0);
    }

    /** Whichever STUFF and TIN the LINE is of, it is of them still when the best have been sought. */
    private void lineStays() {
        String text = Edges.many("stuff # 9 1% 0 0 0;", 4) + Edges.many("tin # 9% 90 90 90;", 4) + Edges.many("loop # 5 % 5 5 5;", 4)
            + "word a 0 0 0 0;word b 9 9 9 9;";
        for (int stuff = 0; stuff < 4; stuff++) {
            for (int tin = 0; tin < 4; tin++) {
                TinString x = Check.with(text);
                x.line(stuff, tin, 2, 9);
                x.bend(stuff);
                x.bend(tin);
                int v = 9000 * (90 + tin) / 100;
                v = v * (990 - stuff) / 1000 * (990 - stuff) / 1000;
                v = v * (50 + 10 * stuff) / 100 * (50 + 10 * tin) / 100 * (90 + tin) / 100;
                e.due("as told", x.through(9, 0), v);
                for (int kind = 0; kind < 2; kind++) {
                    x.best(kind);
                    e.due("as it was behind best " + kind, x.through(9, 0), v);
                    x.bestLoop(kind);
                    e.due("as it was behind bestLoop " + kind, x.through(9, 0), v);
                }
            }
        }
    }

    /** By STUFF 0 WORD 0 is between two others: 128 ways of it, 192 of each other; by STUFF 1 all have 144 at least. */
    private void firstWordCounts() {
        String words = "tin t 71 71 71 71;word a 5 5 5 5;word b 4 7 5 5;word c 6 3 5 5;";
        TinString x = Check.with("stuff s 9 0 999 0 0;stuff t 9 999 0 0 0;" + words);
        x.line(0, 0, 1, 9);
        int[] byFirst = {x.table(0, 0), x.table(1, 1), x.table(2, 2)};
        x.line(1, 0, 1, 9);
        int[] bySecond = {x.table(0, 0), x.table(1, 1), x.table(2, 2)};
        e.due("WORD 0 by STUFF 0", byFirst[0], 128);
        e.due("the others by STUFF 0", Math.min(byFirst[1], byFirst[2]), 192);
        e.must("by STUFF 1 the least is above that", Math.min(bySecond[0], Math.min(bySecond[1], bySecond[2])) > 128);
        e.due("BEST STUFF", x.best(0), 1);
        // Of three WORDS: not the first one between two others.
        x = even("word a 5 5 5 5;word b 5 5 5 4;word c 5 5 5 6;word d 9 9 9 9;");
        e.due("LIST", x.list(3), 11);
        x = even("word d 9 9 9 9;word b 5 5 5 4;word a 5 5 5 5;word c 5 5 5 6;");
        e.due("LIST", x.list(3), 7);
    }

    private void bestLoop() {
        e.says("20", "BEST LOOP in place of BEND k; NONE: there are no LOOPS or no WORDS; RANGE");
        e.says("III", "BEST LOOP in place of BEND k likewise (LOOPS alone).");
        for (int bends = 0; bends <= 4; bends++) {
            TinString none = even("word a 1 1 1 1;");
            TinString mute = even("loop l 1 1 1 1 1;");
            TinString both = even("word a 0 0 0 0;word b 9 9 9 9;loop l 1 1 1 1 1;");
            for (int i = 0; i < bends; i++) {
                none.bend(-1);
                mute.bend(0);
                both.bend(-1);
            }
            for (int k = -1; k <= 4; k++) {
                boolean is = k >= 0 && k < bends;
                e.due("no LOOPS, BEND " + k + " of " + bends, none.bestLoop(k), is ? Edges.NONE : Edges.RANGE);
                e.due("no WORDS, BEND " + k + " of " + bends, mute.bestLoop(k), is ? Edges.NONE : Edges.RANGE);
                e.due("LOOP 0, BEND " + k + " of " + bends, both.bestLoop(k), is ? 0 : Edges.RANGE);
            }
            for (int k : new int[] {Edges.MOST, Edges.LEAST}) {
                e.due("BEND " + k, both.bestLoop(k), Edges.RANGE);
            }
        }
        // The k-th of four LOOPS suits; or two alike.
        for (int k = 0; k < 4; k++) {
            for (int l = k; l < 4; l++) {
                StringBuilder text = new StringBuilder("word a 0 0 0 0;word b 1 1 1 1;");
                for (int i = 0; i < 4; i++) {
                    text.append("loop ").append((char) ('a' + i)).append(i == k || i == l ? " 9 9 9 9 9;" : " 9 0 0 0 0;");
                }
                TinString x = even(text.toString());
                x.bend(l);
                x.bend(-1);
                e.due("behind a bare one all are alike", x.bestLoop(0), 0);
                x.straighten();
                x.bend(-1);
                x.bend(l);
                e.due("ahead of a bare one all are alike", x.bestLoop(1), 0);
                e.due("a bare one is never best", x.bestLoop(0), k);
                e.due("the BEND is bare still", x.through(9, 0), 0);
                x.straighten();
                x.bend(l);
                e.due("BEST LOOP", x.bestLoop(0), k);
                e.due("the BEND is as it was", x.through(1, 0), 504);
            }
        }
    }

    private void list() {
        e.says("21", "LIST of k WORDS (1 .. all), as bits; RANGE");
        e.says("III", "LIST of k WORDS: the set of as many of which, thinking of these alone, the least of their right ways is greatest; "
            + "the least bits of alike ones.");
        for (int words = 0; words <= 6; words++) {
            TinString x = even(Edges.many("word # % 9 0 9;", words) + "noise 0;");
            for (int k = -1; k <= 7; k++) {
                // All are told apart: the first of them are the least bits.
                e.due("LIST of " + k + " of " + words, x.list(k), k >= 1 && k <= words ? (1 << k) - 1 : Edges.RANGE);
            }
            for (int k : new int[] {32, 33, Edges.MOST, Edges.LEAST}) {
                e.due("LIST of " + k, x.list(k), Edges.RANGE);
            }
        }
        // All alike: of two on, one is never taken rightly; the least bits.
        TinString x = even(Edges.many("word # 5 5 5 5;", 6));
        for (int k = 1; k <= 6; k++) {
            e.due("all alike", x.list(k), (1 << k) - 1);
        }
        // The two that are told apart, wherever they are.
        for (int k = 0; k < 5; k++) {
            StringBuilder text = new StringBuilder();
            for (int i = 0; i < 6; i++) {
                text.append("word ").append((char) ('a' + i)).append(i > k ? " 9 9 9 9;" : " 0 0 0 0;");
            }
            x = even(text.toString());
            e.due("the first of both sorts", x.list(2), 1 | 1 << k + 1);
            e.due("one", x.list(1), 1);
        }
        // Far apart are b and c (bits 6), and a and d as far (9), though a is told first.
        x = even("word a 0 0 5 5;word b 4 0 5 5;word c 0 4 5 5;word d 4 4 5 5;noise 3;");
        e.due("as far apart", x.among(6, 1, 1), x.among(9, 0, 0));
        e.due("the least bits, not the least number", x.list(2), 6);
        x = even("word a 5 5 5 5;word b 5 5 5 5;word c 5 5 5 5;word d 0 5 5 5;");
        e.due("of alike ones", x.list(2), 9);
        e.due("of alike ones", x.list(3), 7);
    }

    private void said() {
        e.says("22", "SAID by a seed (0 .. 2147483647): the WORD that is taken; RANGE");
        e.says("III", "The EAR takes that for a WORD.");
        for (int words = 0; words <= 6; words++) {
            TinString x = even(Edges.many("word # % 9 0 9;", words) + "noise 0;");
            for (int w = -1; w <= 6; w++) {
                for (int seed : new int[] {0, 1, Edges.MOST}) {
                    e.due("WORD " + w + " of " + words, x.said(w, seed), w >= 0 && w < words ? w : Edges.RANGE);
                }
                for (int seed : new int[] {-1, Edges.LEAST}) {
                    e.due("seed " + seed, x.said(w, seed), Edges.RANGE);
                }
            }
            e.due("WORD", x.said(Edges.MOST, 0), Edges.RANGE);
            e.due("WORD", x.said(Edges.LEAST, 0), Edges.RANGE);
        }
    }

    /** Heard in the middle of two it is taken for the least number, by the way that a seed draws too. */
    private void saidInTheMiddle() {
        e.says("III", "of alike ones the least.");
        e.says("III", "The EAR takes that for a WORD.");
        TinString x = even("word a 4 5 5 5;word b 6 5 5 5;noise 1;");
        TinString y = even("word b 6 5 5 5;word a 4 5 5 5;noise 1;");
        for (int seed = 0; seed < 60; seed++) {
            int v = noiseBySeed(seed, 0, 1);
            e.due("4 by " + v, x.said(0, seed), 0);
            e.due("6 by " + v, x.said(1, seed), v < 0 ? 0 : 1);
            e.due("6 by " + v, y.said(0, seed), 0);
            e.due("4 by " + v, y.said(1, seed), v > 0 ? 0 : 1);
        }
    }

    private void drawn() {
        e.says("III", "SAID by a seed: s becomes (1103515245 times s and 12345) modulo 2147483648 each time; "
            + "what is drawn of m is s over 65536 (cut), modulo m.");
        e.says("III", "For each BAND one of (n and 1) squared is drawn: the NOISE into which it falls, their ways added from -n on.");
        int[] seeds = {0, 1, 2, 3, 65535, 65536, 32767, 32768, 1 << 30, Edges.MOST, Edges.MOST - 1, Edges.MOST - 65536, 1103515245, 12345, 2000000000};
        for (int n = 0; n <= 3; n++) {
            for (int b = 0; b < 4; b++) {
                // WORDS of LEVEL 3 to 8 in that BAND; what is heard of 5 and 6 tells what was drawn.
                StringBuilder words = new StringBuilder();
                for (int w = 0; w < 6; w++) {
                    words.append(word((char) ('a' + w), b, 3 + w, 5));
                }
                TinString x = even(words + "noise " + n + ";");
                for (int seed : seeds) {
                    int v = noiseBySeed(seed, b, n);
                    e.due("5 by seed " + seed, x.said(2, seed), Math.min(5, Math.max(0, 2 + v)));
                    e.due("6 by seed " + seed, x.said(3, seed), Math.min(5, Math.max(0, 3 + v)));
                }
            }
        }
        eachWay();
    }

    /** Each way of noise 3 by the first seed that draws it: the last way of a NOISE and the first one of the next. */
    private void eachWay() {
        TinString x = even("word a 2 5 5 5;word b 3 5 5 5;word c 4 5 5 5;word d 5 5 5 5;word e 6 5 5 5;word f 7 5 5 5;noise 3;");
        int[] heard = {0, 1, 1, 2, 2, 2, 3, 3, 3, 3, 4, 4, 4, 5, 5, 5};
        for (int way = 0; way < 16; way++) {
            e.due("way " + way + " of 16", x.said(3, seedOf(way)), heard[way]);
        }
        // The last NOISE, 3, has LEVEL 8, which none is of; so by WORDS a level louder.
        x = even("word a 3 5 5 5;word b 4 5 5 5;word c 5 5 5 5;word d 6 5 5 5;word e 7 5 5 5;word f 8 5 5 5;noise 3;");
        int[] louder = {0, 0, 0, 1, 1, 1, 2, 2, 2, 2, 3, 3, 3, 4, 4, 5};
        for (int way = 0; way < 16; way++) {
            e.due("way " + way + " of 16", x.said(2, seedOf(way)), louder[way]);
        }
    }

    /** The first seed that draws this way of 16. */
    private static int seedOf(int way) {
        int seed = 0;
        while ((1103515245L * seed + 12345L) % 2147483648L / 65536 % 16 != way) {
            seed++;
        }
        return seed;
    }

    private static int noiseBySeed(int seed, int b, int n) {
        BigInteger s = BigInteger.valueOf(seed);
        for (int i = 0; i <= b; i++) {
            s = s.multiply(BigInteger.valueOf(1103515245)).add(BigInteger.valueOf(12345)).mod(BigInteger.valueOf(2147483648L));
        }
        int way = s.divide(BigInteger.valueOf(65536)).mod(BigInteger.valueOf((n + 1) * (n + 1))).intValueExact();
        int v = -n;
        for (int of = 1; way >= of; of += v <= 0 ? 1 : -1) {
            way -= of;
            v++;
        }
        return v;
    }

    private void state() {
        for (String lacks : new String[] {"", "stuff s 9 0 0 0 0;", "tin t 1 1 1 1;"}) {
            TinString x = Check.with(lacks + "word w 1 1 1 1;loop l 1 1 1 1 1;");
            x.bend(0);
            e.says("16", "STATE likewise");
            e.due("table of [" + lacks + "]", x.table(0, 0), Edges.STATE);
            e.says("17", "STATE likewise");
            e.due("among of [" + lacks + "]", x.among(1, 0, 0), Edges.STATE);
            e.says("18", "STATE likewise");
            e.due("longest of [" + lacks + "]", x.longest(0, 1, 1), Edges.STATE);
            e.says("19", "STATE likewise");
            e.due("best of [" + lacks + "]", x.best(0), Edges.STATE);
            e.due("best of [" + lacks + "]", x.best(1), Edges.STATE);
            e.says("20", "STATE likewise");
            e.due("bestLoop of [" + lacks + "]", x.bestLoop(0), Edges.STATE);
            e.says("21", "STATE likewise");
            e.due("list of [" + lacks + "]", x.list(1), Edges.STATE);
            e.says("22", "STATE likewise");
            e.due("said of [" + lacks + "]", x.said(0, 0), Edges.STATE);
        }
    }
}
