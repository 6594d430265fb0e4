import java.math.BigInteger;

/** Boundary cases of term V and of promises 36 to 40: WRITTEN, FIT, LISTENED, counts. */
final class EdgesWritten {
    // b is heard as b as long as its LEVEL is 1 at least, by noise 0.
    private static final String TWO = "tin t 100 100 100 100;noise 0;word a 0 0 0 0;word b 7 0 0 0;";

    private final Edges e;

    EdgesWritten(Edges e) {
        this.e = e;
    }

    void all() {
        writeNumbers();
        writeSteps();
        writeRefused();
        rightOften();
        rightRefused();
        fitEnds();
        fitKnown();
        fitRight();
        fitOneWay();
        fitAllElse();
        fitAnew();
        fitRefused();
        likeliestAlike();
        likeliestExactly();
        listened();
        listenedBounds();
        listenedRows();
        counts();
        countRefused();
    }

    private void writeNumbers() {
        e.says("36", "One more WRITTEN, told at a STEP: its number; RANGE; FULL");
        e.says("V", "WRITTEN, at most 20, numbered from 0: a WORD that was said and one that was written for it");
        TinString x = Check.with("word a 1 1 1 1;");
        for (int i = 0; i < 20; i++) {
            e.due("its number", x.write(i, 0, 0), i);
            e.due("WRITTEN", x.count(1), i + 1);
        }
        e.due("the 21st", x.write(20, 0, 0), Edges.FULL);
        e.due("the 21st", x.write(999, 0, 0), Edges.FULL);
        e.due("WRITTEN", x.count(1), 20);
        e.due("the last one", x.right(19, 19, 0), 1);
        e.due("none behind it", x.right(19, 20, 0), Edges.RANGE);
        Check.street(x, "word a 1 1 1 1;");
        e.due("from 0 on again", x.write(0, 0, 0), 0);
    }

    private void writeSteps() {
        e.says("V", "told at a STEP of telling (0 .. 999, never falling)");
        TinString x = Check.with("word a 1 1 1 1;");
        for (int told : new int[] {-1, 1000, Edges.MOST, Edges.LEAST}) {
            e.due("STEP " + told, x.write(told, 0, 0), Edges.RANGE);
        }
        e.due("the least", x.write(0, 0, 0), 0);
        e.due("as late", x.write(0, 0, 0), 1);
        e.due("later", x.write(1, 0, 0), 2);
        e.due("falling", x.write(0, 0, 0), Edges.RANGE);
        e.due("falling", x.right(0, 0, 0), Edges.RANGE);
        e.due("as late", x.right(1, 0, 0), 1);
        e.due("later", x.right(500, 0, 0), 2);
        e.due("falling", x.right(499, 0, 0), Edges.RANGE);
        e.due("falling", x.write(499, 0, 0), Edges.RANGE);
        e.due("as late", x.write(500, 0, 0), 3);
        // What is refused is told at no STEP.
        e.due("no such WORD", x.write(998, 1, 0), Edges.RANGE);
        e.due("no such WORD", x.write(998, 0, 1), Edges.RANGE);
        e.due("no such WRITTEN", x.right(998, 4, 0), Edges.RANGE);
        e.due("no such WORD", x.right(998, 0, 1), Edges.RANGE);
        e.due("no such STEP", x.write(1000, 0, 0), Edges.RANGE);
        // What is asked as known at a STEP neither.
        e.due("as known later", x.fit(999, 0), Edges.STATE);
        e.due("the step after", x.write(501, 0, 0), 4);
        e.due("the last", x.write(999, 0, 0), 5);
        e.due("the last again", x.write(999, 0, 0), 6);
        e.due("the last again", x.right(999, 6, 0), 1);
        for (int told : new int[] {998, 0, -1, 1000}) {
            e.due("STEP " + told, x.write(told, 0, 0), Edges.RANGE);
            e.due("STEP " + told, x.right(told, 0, 0), Edges.RANGE);
        }
        // FULL is told at no STEP either.
        x = Check.with("word a 1 1 1 1;");
        for (int i = 0; i < 20; i++) {
            x.write(3, 0, 0);
        }
        e.due("FULL", x.write(900, 0, 0), Edges.FULL);
        e.due("falling ahead of FULL", x.write(2, 0, 0), Edges.RANGE);
        for (int i = 1; i <= 20; i++) {
            e.due("as late as before", x.right(3, 0, 0), i);
        }
        e.due("FULL", x.right(900, 0, 0), Edges.FULL);
        e.due("still", x.right(3, 0, 0), Edges.FULL);
        e.due("still", x.right(2, 0, 0), Edges.RANGE);
    }

    private void writeRefused() {
        e.says("36", "RANGE");
        for (int words = 0; words <= 6; words++) {
            for (int said = -1; said <= 6; said++) {
                for (int written = -1; written <= 6; written++) {
                    TinString x = Check.with(Edges.many("word # % 0 0 0;", words));
                    boolean both = said >= 0 && written >= 0 && said < words && written < words;
                    e.due("write " + said + " " + written + " of " + words, x.write(0, said, written), both ? 0 : Edges.RANGE);
                    e.due("WRITTEN", x.count(1), both ? 1 : 0);
                }
            }
        }
        TinString x = Check.with("word a 1 1 1 1;");
        for (int far : new int[] {Edges.MOST, Edges.LEAST}) {
            e.due("WORD " + far, x.write(0, far, 0), Edges.RANGE);
            e.due("WORD " + far, x.write(0, 0, far), Edges.RANGE);
        }
    }

    private void rightOften() {
        e.says("37", "One of these is put RIGHT at a STEP: how often it was; RANGE; FULL: the 21st in all");
        e.says("V", "perhaps put RIGHT later (what was written).");
        TinString x = Check.with("word a 1 1 1 1;");
        for (int i = 0; i < 20; i++) {
            x.write(0, 0, 0);
        }
        // Each of them once, then the 21st.
        for (int k = 0; k < 20; k++) {
            e.due("each once", x.right(k, k, 0), 1);
            e.due("puttings RIGHT", x.count(2), k + 1);
        }
        for (int k = 0; k < 20; k++) {
            e.due("the 21st", x.right(20, k, 0), Edges.FULL);
        }
        e.due("puttings RIGHT", x.count(2), 20);
        // One of them twenty times; and by turns.
        x = Check.with("word a 1 1 1 1;");
        x.write(0, 0, 0);
        for (int i = 1; i <= 20; i++) {
            e.due("how often", x.right(0, 0, 0), i);
        }
        e.due("the 21st", x.right(0, 0, 0), Edges.FULL);
        e.due("there is room for WRITTEN", x.write(0, 0, 0), 1);
        e.due("the 21st in all", x.right(0, 1, 0), Edges.FULL);
        x = Check.with("word a 1 1 1 1;");
        x.write(0, 0, 0);
        x.write(0, 0, 0);
        for (int i = 1; i <= 10; i++) {
            e.due("the one", x.right(0, 0, 0), i);
            e.due("the other", x.right(0, 1, 0), i);
        }
        e.due("the 21st", x.right(0, 0, 0), Edges.FULL);
    }

    private void rightRefused() {
        e.says("37", "RANGE");
        for (int many = 0; many <= 3; many++) {
            TinString x = Check.with("word a 1 1 1 1;word b 2 2 2 2;");
            for (int i = 0; i < many; i++) {
                x.write(0, 0, 0);
            }
            for (int k = -1; k <= 4; k++) {
                for (int written = -1; written <= 2; written++) {
                    boolean ok = k >= 0 && k < many && written >= 0 && written < 2;
                    e.due("right " + k + " " + written + " of " + many, x.right(0, k, written), ok ? written + 1 : Edges.RANGE);
                }
            }
            for (int far : new int[] {Edges.MOST, Edges.LEAST}) {
                e.due("right " + far, x.right(far, 0, 0), Edges.RANGE);
                e.due("right " + far, x.right(0, far, 0), Edges.RANGE);
                e.due("right " + far, x.right(0, 0, far), Edges.RANGE);
            }
            e.due("puttings RIGHT", x.count(2), 2 * many);
        }
    }

    /** Of a street of these STUFFS: how many LAWS fit b taken for b, the least of them, and the same of b taken for a. */
    private void laws(String stuffs, int many, int right, int leastRight, int leastWrong) {
        for (int as = 1; as >= 0; as--) {
            TinString x = Check.with(stuffs + TWO);
            x.line(0, 0, 1, 9);
            x.write(0, 1, as);
            int fits = as == 1 ? right : 20 * many - right;
            int least = as == 1 ? leastRight : leastWrong;
            e.due(stuffs + " as " + as, x.fit(0, 0), fits);
            e.due(stuffs + " as " + as, x.fit(0, 1), least);
            e.due(stuffs + " as " + as, x.fit(0, 2), least);
        }
    }

    private void fitEnds() {
        e.says("38", "FIT as known at a STEP, what 0: how many, 1: the least number, 2: LIKELIEST (NONE)");
        e.says("V", "LAWS: a STUFF, YARDS by tens 10 .. 200, numbered 20 times the STUFF, and tens less 1; all else of the LINE as it is.");
        // What falls below 500 behind the 10th yard and ahead of the 20th, ahead of the 10th; not by 200, between the 190th and the 200th.
        laws("stuff s 9 0 0 0 0;", 1, 20, 0, Edges.NONE);
        laws("stuff s 9 999 0 0 0;", 1, 0, Edges.NONE, 0);
        laws("stuff s 9 " + fading(10) + " 0 0 0;", 1, 1, 0, 1);
        laws("stuff s 9 " + (fading(10) + 1) + " 0 0 0;", 1, 0, Edges.NONE, 0);
        laws("stuff s 9 " + fading(200) + " 0 0 0;", 1, 20, 0, Edges.NONE);
        laws("stuff s 9 " + (fading(200) + 1) + " 0 0 0;", 1, 19, 0, 19);
        // The last law of the first STUFF, the first of the second; the very first and the very last of four.
        laws("stuff s 9 " + (fading(200) + 1) + " 0 0 0;stuff t 9 0 0 0 0;", 2, 39, 0, 19);
        laws("stuff s 9 0 0 0 0;stuff t 9 999 0 0 0;", 2, 20, 0, 20);
        laws("stuff s 9 999 0 0 0;stuff t 9 " + fading(10) + " 0 0 0;", 2, 1, 20, 0);
        laws("stuff s 9 0 0 0 0;stuff t 9 0 0 0 0;stuff u 9 0 0 0 0;stuff v 9 " + (fading(200) + 1) + " 0 0 0;", 4, 79, 0, 79);
        laws("stuff s 9 999 0 0 0;stuff t 9 999 0 0 0;stuff u 9 999 0 0 0;stuff v 9 0 0 0 0;", 4, 20, 60, 0);
        // Nothing known: all fit, by the least number; with WORDS and without.
        for (String words : new String[] {"", "word a 1 1 1 1;"}) {
            for (int many = 1; many <= 4; many++) {
                TinString x = Check.with(Edges.many("stuff # 9 % 0 0 0;", many) + "tin t 1 1 1 1;" + words);
                e.due("all", x.fit(999, 0), 20 * many);
                e.due("the least", x.fit(999, 1), 0);
                e.due("the LIKELIEST of alike ones", x.fit(999, 2), 0);
            }
        }
    }

    /** The most of a thousand by which 7000 is still 500 after so many yards. */
    private static int fading(int yards) {
        int most = 0;
        for (int loss = 0; loss < 1000; loss++) {
            int v = 7000;
            for (int i = 0; i < yards; i++) {
                v = v * (1000 - loss) / 1000;
            }
            most = v >= 500 ? loss : most;
        }
        return most;
    }

    private void fitKnown() {
        e.says("V", "FIT as known at a STEP");
        TinString x = Check.with("stuff s 9 999 0 0 0;stuff t 9 0 0 0 0;" + TWO);
        x.line(0, 0, 1, 9);
        x.write(0, 1, 1);
        e.due("known at once", x.fit(0, 0), 20);
        x = Check.with("stuff s 9 999 0 0 0;stuff t 9 0 0 0 0;" + TWO);
        x.line(0, 0, 1, 9);
        x.write(7, 1, 1);
        x.write(999, 0, 1);
        for (int known : new int[] {0, 6, 7, 8, 998, 999}) {
            e.due("known at " + known, x.fit(known, 0), known < 7 ? 40 : known < 999 ? 20 : 0);
            e.due("known at " + known, x.fit(known, 1), known < 7 ? 0 : known < 999 ? 20 : Edges.NONE);
            e.due("known at " + known, x.fit(known, 2), known < 7 ? 0 : known < 999 ? 20 : Edges.NONE);
        }
    }

    private void fitRight() {
        e.says("V", "FIT as known at a STEP");
        TinString x = Check.with("stuff s 9 999 0 0 0;stuff t 9 0 0 0 0;" + TWO);
        x.line(0, 0, 1, 9);
        x.write(5, 0, 0);
        x.write(5, 1, 1);
        x.right(10, 1, 0);
        x.right(20, 1, 1);
        x.right(20, 1, 0);
        x.right(20, 0, 1);
        x.right(30, 0, 0);
        x.right(999, 1, 1);
        // b as b by STUFF 1 alone, b as a by STUFF 0 alone, a as b never.
        int[][] due = {{4, 40, 0}, {5, 20, 20}, {9, 20, 20}, {10, 20, 0}, {19, 20, 0}, {20, 0, Edges.NONE}, {29, 0, Edges.NONE}, {30, 20, 0},
            {998, 20, 0}, {999, 20, 20}};
        for (int[] d : due) {
            e.due("known at " + d[0], x.fit(d[0], 0), d[1]);
            e.due("known at " + d[0], x.fit(d[0], 1), d[2]);
            e.due("known at " + d[0], x.fit(d[0], 2), d[2]);
        }
        // The very STEP it was told at.
        x = Check.with("stuff s 9 999 0 0 0;stuff t 9 0 0 0 0;" + TWO);
        x.line(0, 0, 1, 9);
        x.write(5, 1, 1);
        x.right(5, 0, 0);
        e.due("put RIGHT at once", x.fit(5, 1), 0);
        e.due("ahead of both", x.fit(4, 0), 40);
    }

    private void fitOneWay() {
        e.says("V", "LAWS by which all that is known has one way at least in TABLE.");
        // By noise 3 a has but one way of 65536 to be taken for b of 5 6 6 6, none for b of 6 6 6 6.
        for (int loud = 5; loud <= 6; loud++) {
            String words = "word a 0 0 0 0;word b " + loud + " 6 6 6;noise 3;";
            TinString x = Check.with("stuff s 9 0 0 0 0;stuff t 9 999 999 999 999;tin t 71 71 71 71;" + words);
            x.line(0, 0, 10, 9);
            e.due("ways", x.table(0, 1), loud == 5 ? 1 : 0);
            x.write(0, 0, 1);
            e.due("fits", x.fit(0, 0), loud == 5 ? 20 : 0);
            e.due("the least", x.fit(0, 1), loud == 5 ? 0 : Edges.NONE);
            e.due("the LIKELIEST", x.fit(0, 2), loud == 5 ? 0 : Edges.NONE);
            // All of it, not most of it.
            for (int i = 0; i < 19; i++) {
                x.write(1, 1, 1);
            }
            e.due("with nineteen more", x.fit(1, 0), loud == 5 ? 20 : 0);
        }
    }

    private void fitAllElse() {
        e.says("V", "all else of the LINE as it is.");
        // The PULL snaps one STUFF; the TIN and a BEND are as told.
        TinString x = Check.with("stuff s 5 0 0 0 0;stuff t 9 0 0 0 0;tin u 9 9 9 9;loop l 5 5 5 5 5;" + TWO);
        x.line(1, 1, 400, 9);
        x.write(0, 1, 1);
        e.due("STUFF 0 is SNAPPED", x.fit(0, 0), 20);
        e.due("STUFF 0 is SNAPPED", x.fit(0, 1), 20);
        x.line(1, 0, 400, 9);
        e.due("by the other TIN", x.fit(0, 0), 0);
        x.line(1, 1, 400, 0);
        e.due("SLACK", x.fit(0, 0), 0);
        x.line(1, 1, 400, 5);
        e.due("the STUFFS bear it", x.fit(0, 0), 40);
        x.bend(0);
        e.due("by a LOOP", x.fit(0, 0), 40);
        x.tie(100);
        e.due("all goes to who is tied in", x.fit(0, 0), 0);
        x.straighten();
        x.bend(-1);
        e.due("by a bare BEND", x.fit(0, 0), 0);
        x.straighten();
        // STUFF and YARDS of the LINE are no part of it, and stay.
        x = Check.with("stuff s 9 1 0 0 0;stuff t 9 2 0 0 0;" + TWO);
        x.line(1, 0, 2, 9);
        x.fit(0, 2);
        e.due("the LINE as it was", x.through(9, 0), 8964);
        x.line(0, 0, 400, 9);
        x.write(0, 1, 1);
        e.due("whatever its YARDS", x.fit(0, 0), 40);
        e.due("whatever its YARDS", x.fit(0, 1), 0);
    }

    private void fitRefused() {
        e.says("38", "RANGE; STATE: there is no STUFF or no TIN");
        for (String lacks : new String[] {"", "stuff s 9 0 0 0 0;", "tin t 1 1 1 1;"}) {
            TinString x = Check.with(lacks + "word w 1 1 1 1;");
            for (int what = 0; what < 3; what++) {
                e.due("fit of [" + lacks + "]", x.fit(0, what), Edges.STATE);
                e.due("fit of [" + lacks + "]", x.fit(999, what), Edges.STATE);
                e.due("fit of [" + lacks + "]", x.fit(1000, what), Edges.RANGE);
            }
            e.due("fit of [" + lacks + "]", x.fit(0, 3), Edges.RANGE);
        }
        TinString x = Check.with("stuff s 9 0 0 0 0;" + TWO);
        for (int what = 0; what < 3; what++) {
            e.must("the first STEP", x.fit(0, what) >= 0);
            e.must("the last STEP", x.fit(999, what) >= 0);
            for (int known : new int[] {-1, 1000, Edges.MOST, Edges.LEAST}) {
                e.due("known at " + known, x.fit(known, what), Edges.RANGE);
            }
        }
        for (int what : new int[] {-1, 3, Edges.MOST, Edges.LEAST}) {
            e.due("what " + what, x.fit(0, what), Edges.RANGE);
        }
    }

    private void likeliestAlike() {
        e.says("V", "the least number of alike ones.");
        // By four alike STUFFS, LAWS of four numbers are alike.
        TinString x = Check.with(Edges.many("stuff # 9 30 0 0 0;", 4) + "tin t 100 100 100 100;word a 0 0 0 0;word b 9 0 0 0;");
        x.line(3, 0, 10, 9);
        x.write(0, 1, 1);
        x.write(0, 1, 0);
        int least = x.fit(0, 1);
        e.due("both ways, the least", x.fit(0, 2), least);
        e.must("of STUFF 0", least >= 0 && least < 20);
        // The greatest is not the least number: b is surer by STUFF 1 (LEVEL 2 by STUFF 0), a way there is by both.
        x = Check.with("stuff s 9 0 999 0 0;stuff t 9 0 0 0 0;tin t 100 100 100 100;word a 0 0 0 0;word b 1 9 0 0;");
        x.line(0, 0, 10, 9);
        x.write(0, 1, 1);
        e.due("how many", x.fit(0, 0), 40);
        e.due("the least number", x.fit(0, 1), 0);
        e.due("LIKELIEST", x.fit(0, 2), 20);
    }

    /** By STUFF 0 b and c are right by 192 of 256 ways each, by STUFF 1 by 256 and 144: 192 times 192 is as much as 256 times 144. */
    private void likeliestExactly() {
        e.says("V", "LIKELIEST of those that FIT: the greatest product of these ways (each times how often), compared exactly");
        String words = "word a 0 0 0 0;word b 9 0 0 0;word p 0 9 3 9;word q 0 9 4 0;word c 0 9 4 9;tin t 100 100 100 100;";
        String near = "stuff s 9 183 0 0 0;";
        String far = "stuff t 9 0 0 0 183;";
        int[][] ways = {{192, 192}, {256, 144}};
        for (int first = 0; first < 2; first++) {
            String street = (first == 0 ? near + far : far + near) + words;
            for (int stuff = 0; stuff < 2; stuff++) {
                TinString x = Check.with(street);
                x.line(stuff, 0, 10, 9);
                e.due("ways of b", x.table(1, 1), ways[stuff ^ first][0]);
                e.due("ways of c", x.table(4, 4), ways[stuff ^ first][1]);
            }
            // As often the one as the other: alike, so the least number; once more b or c: not alike.
            for (int often = 1; often <= 10; often++) {
                TinString x = Check.with(street);
                x.line(1, 0, 50, 9);
                for (int i = 0; i < often; i++) {
                    x.write(0, 1, 1);
                    x.write(0, 4, 4);
                }
                e.due(often + " times each", x.fit(0, 2), 0);
                if (often < 10) {
                    x.write(1, 1, 1);
                    e.due("b once more", x.fit(1, 2), first == 0 ? 20 : 0);
                    e.due("the least number of those that FIT", x.fit(1, 1), 0);
                    e.due("how many FIT", x.fit(1, 0), 2);
                    x.write(2, 4, 4);
                    e.due("c as often", x.fit(2, 2), 0);
                    x.right(3, 0, 0);
                    e.due("a b put RIGHT to a: STUFF 1 has no way to that", x.fit(3, 2), first == 0 ? 0 : 20);
                }
                if (often < 9) {
                    x.right(4, 0, 1);
                    x.write(5, 4, 4);
                    e.due("c once more", x.fit(5, 2), first == 0 ? 0 : 20);
                }
            }
        }
        products();
    }

    /** Three STUFFS, by each of which another WORD is faint: up to twenty ways of 65536, held against products made here. */
    private void products() {
        String street = "stuff s 9 183 0 0 0;stuff t 9 0 183 0 0;stuff u 9 0 0 183 0;tin t 100 100 100 100;noise 3;"
            + "word a 0 0 0 0;word b 9 0 0 0;word c 0 9 0 0;word d 0 0 9 0;";
        int[][] ways = new int[60][4];
        for (int law = 0; law < 60; law++) {
            TinString x = Check.with(street);
            x.line(law / 20, 0, law % 20 * 10 + 10, 9);
            for (int w = 0; w < 4; w++) {
                ways[law][w] = x.table(w, w);
            }
        }
        for (int run = 0; run < 27; run++) {
            int[] said = {1 + run % 3, 1 + run / 3 % 3, 1 + run / 9};
            TinString x = Check.with(street);
            x.line(0, 0, 10, 9);
            for (int k = 0; k < 20; k++) {
                int w = said[k % 5 < 2 ? 0 : k % 5 < 4 ? 1 : 2];
                x.write(k, w, w);
            }
            for (int known = 0; known < 20; known++) {
                BigInteger most = BigInteger.ZERO;
                int best = Edges.NONE;
                for (int law = 0; law < 60; law++) {
                    BigInteger p = BigInteger.ONE;
                    for (int k = 0; k <= known; k++) {
                        p = p.multiply(BigInteger.valueOf(ways[law][said[k % 5 < 2 ? 0 : k % 5 < 4 ? 1 : 2]]));
                    }
                    best = p.compareTo(most) > 0 ? law : best;
                    most = p.max(most);
                }
                e.due("run " + run + " as known at " + known, x.fit(known, 2), best);
            }
        }
    }

    /** LEVELS that change all at once from one law to the next, and such that are alike for all. */
    private void fitAnew() {
        e.says("V", "LAWS by which all that is known has one way at least in TABLE.");
        TinString x = Check.with("stuff s 9 150 150 150 150;tin t 100 100 100 100;noise 0;word a 9 9 9 9;word b 5 5 5 5;");
        for (int yards : new int[] {1, 10, 20, 200}) {
            x.line(0, 0, yards, 9);
            x.table(0, 0);
            e.due("nothing known at " + yards, x.fit(0, 0), 20);
        }
        x.write(1, 1, 1);
        for (int yards : new int[] {1, 10, 20, 200}) {
            x.line(0, 0, yards, 9);
            x.table(0, 0);
            e.due("b by 10 yards alone", x.fit(1, 0), 1);
            e.due("b by 10 yards alone", x.fit(1, 2), 0);
        }
        x.right(2, 0, 0);
        for (int yards : new int[] {1, 10, 20, 200}) {
            x.line(0, 0, yards, 9);
            x.table(0, 0);
            e.due("a from 20 yards on", x.fit(2, 0), 19);
            e.due("a from 20 yards on", x.fit(2, 1), 1);
            e.due("a from 20 yards on", x.fit(2, 2), 1);
        }
    }

    private static long listened(String row, int sent, int came, int slack) {
        TinString x = new TinString();
        Check.lay(x, row);
        return x.listened(sent, came, slack);
    }

    private void listened() {
        e.says("V", "LISTENED: one of 4 ears at told places, each of which would take so much of a hundred 0 .. 100; what was sent and what came (0 .. 99999): "
            + "those by whom what came (sent times (100 less that) over 100, cut) is off by a slack at most.");
        e.says("39", "LISTENED: THE TAPE is a row of 4 N (0 .. 100): those who may have, as bits");
        // 1000 by 10 is 900: off by 5 either way.
        int[][] due = {{900, 0, 1}, {901, 0, 0}, {899, 0, 0}, {905, 5, 1}, {895, 5, 1}, {906, 5, 0}, {894, 5, 0}, {905, 4, 0}, {895, 4, 0}};
        for (int[] d : due) {
            for (int k = 0; k < 4; k++) {
                String row = "50 ".repeat(k) + "10 " + "50 ".repeat(3 - k);
                e.due(row + ", came " + d[0] + ", slack " + d[1], listened(row, 1000, d[0], d[1]), d[2] << k);
            }
        }
        // Cut: 33 of 99 is 66.33 left, 67 of 1 nothing.
        e.due("66.33", listened("33 33 33 33", 99, 66, 0), 15);
        e.due("66.33", listened("33 33 33 33", 99, 67, 0), 0);
        e.due("0.99", listened("1 1 1 1", 1, 0, 0), 15);
        e.due("0.99", listened("1 1 1 1", 1, 1, 0), 0);
        e.due("none may have", listened("1 2 3 4", 1000, 0, 0), 0);
        e.due("all may have", listened("0 100 50 1", 0, 0, 0), 15);
    }

    private void listenedBounds() {
        e.says("39", "RANGE: sent, came, slack 0 .. 99999");
        e.due("nothing taken", listened("0 100 0 100", 99999, 99999, 0), 5);
        e.due("all taken", listened("0 100 0 100", 99999, 0, 0), 10);
        e.due("a slack of all", listened("0 100 0 100", 99999, 0, 99999), 15);
        e.due("a slack of all but one", listened("0 100 0 100", 99999, 0, 99998), 10);
        e.due("the most by 1", listened("1 1 1 1", 99999, 98999, 0), 15);
        e.due("nothing sent, the most came", listened("0 0 0 0", 0, 99999, 99998), 0);
        for (int wrong : new int[] {-1, 100000, Edges.MOST, Edges.LEAST}) {
            for (String row : new String[] {"0 0 0 0", "", "1 2 3"}) {
                e.due("sent " + wrong, listened(row, wrong, 0, 0), Edges.RANGE);
                e.due("came " + wrong, listened(row, 0, wrong, 0), Edges.RANGE);
                e.due("slack " + wrong, listened(row, 0, 0, wrong), Edges.RANGE);
            }
        }
    }

    private void listenedRows() {
        e.says("39", "NONE: it is no such row");
        for (String row : new String[] {"", " \n", "0", "0 0", "0 0 0", "0 0 0 0 0", "0 ".repeat(450), "0 0 0 101", "101 0 0 0", "0 101 0 0", "0 0 101 0",
            "9999 0 0 0", "0 0 0 00000", "0 0 0 10000", "a 0 0 0", "0 0 0 a", "0 0 0 0 a", "0 0 0 0;", ";0 0 0 0", "0 0;0 0", "0 0 0 -1", "0 0 0 0!",
            "0,0,0,0", "0\t0 0 0", "0 0 0 0 \0"}) {
            e.due("[" + row + "]", listened(row, 0, 0, 0), Edges.NONE);
        }
        for (String row : new String[] {"0 0 0 0", " 0\n0\n0\n0\n", "100 100 100 100", "0000 0000 0000 0000", "0 000 100 0100", " ".repeat(893) + "0 0 0 0"}) {
            e.due("[" + row + "]", listened(row, 0, 0, 0), 15);
        }
        e.due("a TAPE that is empty at first", new TinString().listened(0, 0, 0), Edges.NONE);
    }

    private void counts() {
        e.says("40", "What 0: clauses of the STREET, 1: WRITTEN, 2: puttings RIGHT, 3: WISHES, 4: CELLS, 5: TICKS, 6: bytes of THE TAPE");
        TinString x = new TinString();
        int[] first = {0, 0, 0, 0, 2, 0, 0};
        for (int what = 0; what < 7; what++) {
            e.due("at first, what " + what, x.count(what), first[what]);
        }
        Check.street(x, Edges.many("house # %0 0;", 5) + "word a 1 1 1 1;wet 1;");
        for (int a = 0; a < 5; a++) {
            for (int b = 0; b < a; b++) {
                x.wish(a, b);
            }
        }
        for (int i = 0; i < 22; i++) {
            x.write(i, 0, 0);
            x.right(i, 0, 0);
        }
        x.stretch(40);
        x.tick(400);
        x.tick(400);
        Check.lay(x, " ".repeat(900));
        int[] most = {7, 20, 20, 10, 40, 800, 900};
        for (int what = 0; what < 7; what++) {
            e.due("at most, what " + what, x.count(what), most[what]);
        }
    }

    private void countRefused() {
        e.says("40", "NONE for others");
        TinString x = new TinString();
        for (int what : new int[] {-1, -2, 7, 8, 100, Edges.MOST, Edges.LEAST}) {
            e.due("what " + what, x.count(what), Edges.NONE);
        }
    }
}
