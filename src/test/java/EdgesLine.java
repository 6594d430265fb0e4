/** Boundary cases of term II and of promises 8 to 15: the LINE, what it BEARS, what comes THROUGH. */
final class EdgesLine {
    private final Edges e;

    EdgesLine(Edges e) {
        this.e = e;
    }

    void all() {
        line();
        bends();
        ties();
        straighten();
        bears();
        handsOn();
        bearsRefused();
        loops();
        inOrder();
        cutEachTime();
        through();
        share();
        level();
        state();
    }

    /** A LINE with PULL as much as it BEARS, so that it hands on all. */
    private static TinString tight(String text, int yards) {
        TinString x = Check.with(text);
        x.line(0, 0, yards, x.bears(0));
        return x;
    }

    private void line() {
        e.says("8", "The LINE becomes that (STUFF, TIN by numbers); BENDS and TIES stay: 1; RANGE: no such STUFF, TIN, YARDS, PULL");
        e.says("II", "A LINE: a STUFF, a TIN at both ends, YARDS 1 .. 400, a PULL 0 .. 99");
        for (String text : new String[] {"", "tin t 1 1 1 1;", "stuff a 9 0 0 0 0;"}) {
            e.due("of [" + text + "]", Check.with(text).line(0, 0, 1, 0), Edges.RANGE);
        }
        for (int many = 1; many <= 4; many++) {
            TinString x = Check.with(Edges.many("stuff # 1% 0 0 0 0;", many) + Edges.many("tin # 5% 100 100 100;", 5 - many));
            for (int k = 0; k < many; k++) {
                e.due("STUFF " + k, x.line(k, 0, 1, 0), 1);
                e.due("it BEARS", x.bears(0), 10 + k);
            }
            e.due("no STUFF", x.line(many, 0, 1, 0), Edges.RANGE);
            for (int k = 0; k < 5 - many; k++) {
                e.due("TIN " + k, x.line(0, k, 1, 10), 1);
                e.due("through it", x.through(1, 0), 10 * (50 + k) * (50 + k) / 100);
            }
            e.due("no TIN", x.line(0, 5 - many, 1, 10), Edges.RANGE);
        }
        TinString x = Check.with("stuff a 99 1 0 0 0;stuff b 50 0 0 0 0;tin t 100 100 100 100;tin u 50 50 50 50;");
        e.due("the least", x.line(0, 0, 1, 0), 1);
        e.due("the most", x.line(0, 0, 400, 99), 1);
        int v = 9000;
        for (int i = 0; i < 400; i++) {
            v = v * 999 / 1000;
        }
        e.due("400 yards", x.through(9, 0), v);
        e.due("one yard", x.line(0, 0, 1, 99), 1);
        e.due("one yard", x.through(9, 0), 8991);
        x.bend(-1);
        x.tie(1);
        e.due("another", x.line(1, 1, 2, 49), 1);
        e.due("BENDS stay", x.bears(3), 1);
        e.due("TIES stay", x.bears(4), 1);
        x.straighten();
        int[][] wrong = {{2, 0, 1, 0}, {-1, 0, 1, 0}, {Edges.MOST, 0, 1, 0}, {Edges.LEAST, 0, 1, 0}, {0, 2, 1, 0}, {0, -1, 1, 0},
            {0, Edges.MOST, 1, 0}, {0, Edges.LEAST, 1, 0}, {0, 0, 0, 0}, {0, 0, -1, 0}, {0, 0, 401, 0}, {0, 0, Edges.MOST, 0},
            {0, 0, Edges.LEAST, 0}, {0, 0, 1, -1}, {0, 0, 1, 100}, {0, 0, 1, Edges.MOST}, {0, 0, 1, Edges.LEAST}};
        for (int[] w : wrong) {
            e.due("line " + w[0] + " " + w[1] + " " + w[2] + " " + w[3], x.line(w[0], w[1], w[2], w[3]), Edges.RANGE);
            // STUFF 1 BEARS 50, TIN 1 takes a half: as before.
            e.due("as it was", x.bears(0), 50);
            e.due("as it was", x.through(8, 0), 2000);
        }
    }

    private void bends() {
        e.says("9", "One BEND more, a LOOP, or bare (NONE): how many there are; RANGE; FULL");
        e.says("II", "BENDS: at most 4, each a LOOP, or bare: bare ones let nothing by");
        for (int many = 0; many <= 4; many++) {
            TinString x = Check.with("stuff s 9 0 0 0 0;" + Edges.many("loop # 1 1 1 1 1;", many));
            for (int loop : new int[] {many, -2, Edges.MOST, Edges.LEAST}) {
                e.due("no LOOP " + loop, x.bend(loop), Edges.RANGE);
            }
            e.due("none yet", x.bears(3), 0);
            e.due("bare", x.bend(-1), 1);
            for (int i = 2; i <= 4; i++) {
                e.due("BEND " + i, x.bend(many - 1), i);
                e.due("there are", x.bears(3), i);
            }
            e.due("a fifth", x.bend(many - 1), Edges.FULL);
            e.due("a fifth, bare", x.bend(-1), Edges.FULL);
            e.due("a fifth, no LOOP", x.bend(many), Edges.RANGE);
            e.due("there are", x.bears(3), 4);
            e.due("no TIES", x.bears(4), 0);
        }
        for (int bare = 0; bare < 4; bare++) {
            TinString x = tight("stuff s 9 0 0 0 0;tin t 100 100 100 100;loop l 5 5 5 5 5;", 1);
            for (int i = 0; i < 4; i++) {
                e.due("all comes through", x.through(9, 0), i <= bare ? 9000 : 0);
                x.bend(i == bare ? -1 : 0);
            }
            e.due("nothing by the bare one", x.through(9, 0), 0);
        }
    }

    private void ties() {
        e.says("10", "One TIE more by a hundredth: how many there are; RANGE; FULL");
        e.says("II", "TIES: at most 4, each by so much of a hundred 0 .. 100: who is tied in gets that of what comes there, the rest goes on");
        TinString x = new TinString();
        for (int wrong : new int[] {-1, 101, Edges.MOST, Edges.LEAST}) {
            e.due("tie " + wrong, x.tie(wrong), Edges.RANGE);
        }
        e.due("there are none", x.straighten(), 0);
        e.due("the least", x.tie(0), 1);
        e.due("the most", x.tie(100), 2);
        e.due("a third", x.tie(1), 3);
        e.due("a fourth", x.tie(99), 4);
        e.due("a fifth", x.tie(0), Edges.FULL);
        e.due("a fifth", x.tie(100), Edges.FULL);
        e.due("a fifth that can't be", x.tie(101), Edges.RANGE);
        e.due("a fifth that can't be", x.tie(-1), Edges.RANGE);
        e.due("BENDS have room of their own", x.bend(-1), 1);
        e.due("there are", x.straighten(), 5);
        x = tight("stuff s 9 0 0 0 0;tin t 100 100 100 100;", 1);
        int[] by = {0, 1, 99, 100};
        int[] shares = {0, 90, 8820, 89};
        int[] rests = {9000, 8910, 89, 0};
        for (int k = 0; k < 4; k++) {
            x.tie(by[k]);
            e.due("what TIE " + k + " gets", x.share(k, 9, 0), shares[k]);
            e.due("what goes on", x.through(9, 0), rests[k]);
        }
    }

    private void straighten() {
        e.says("11", "There are no BENDS and TIES: how many there were");
        for (int bends = 0; bends <= 4; bends++) {
            for (int ties = 0; ties <= 4; ties++) {
                TinString x = Check.with("stuff s 9 0 0 0 0;");
                for (int i = 0; i < bends; i++) {
                    x.bend(-1);
                }
                for (int i = 0; i < ties; i++) {
                    x.tie(1);
                }
                e.due("there were", x.straighten(), bends + ties);
                e.due("no BENDS", x.bears(3), 0);
                e.due("no TIES", x.bears(4), 0);
                e.due("there were none", x.straighten(), 0);
                e.due("from the first on", x.bend(-1), 1);
                e.due("from the first on", x.tie(1), 1);
            }
        }
    }

    private void bears(String text, int bears) {
        TinString x = Check.with(text + "tin t 100 100 100 100;");
        e.due(text + " BEARS", x.bears(0), bears);
        for (int pull = 0; pull <= 99; pull++) {
            x.line(0, 0, 1, pull);
            e.due(text + " SNAPPED by " + pull, x.bears(2), pull > bears ? 1 : 0);
            if (pull == 0 || pull > bears) {
                e.due(text + " hands on by " + pull, x.bears(1), 0);
                e.due(text + " through by " + pull, x.through(9, 0), 0);
            } else {
                e.must(text + " hands on by " + pull, x.bears(1) > 0);
            }
        }
    }

    private void bears() {
        e.says("II", "It BEARS: SNAP times (100 less wet) over 100 (cut), less wind (0 at least); "
            + "with a PULL above that it is SNAPPED: nothing comes.");
        e.says("12", "Of the LINE, what 0: what it BEARS, 1: HANDS ON (0 also SNAPPED), 2: 1 if SNAPPED, else 0, 3: BENDS, 4: TIES");
        bears("stuff a 1 0 0 0 0;", 1);
        bears("stuff a 99 0 0 0 0;", 99);
        bears("stuff a 99 0 0 0 0;wet 1;", 98);
        bears("stuff a 99 0 0 0 0;wet 90;", 9);
        bears("stuff a 10 0 0 0 0;wet 90;", 1);
        bears("stuff a 9 0 0 0 0;wet 90;", 0);
        bears("stuff a 1 0 0 0 0;wet 1;", 0);
        bears("stuff a 51 0 0 0 0;wind 50;", 1);
        bears("stuff a 50 0 0 0 0;wind 50;", 0);
        bears("stuff a 49 0 0 0 0;wind 50;", 0);
        bears("stuff a 1 0 0 0 0;wet 90;wind 50;", 0);
        // 49.5
        bears("stuff a 99 0 0 0 0;wet 50;wind 49;", 0);
        bears("stuff a 99 0 0 0 0;wet 50;wind 48;", 1);
    }

    private void handsOn() {
        e.says("II", "HANDS ON, in hundredths: 0 with PULL 0 (it is SLACK) or SNAPPED; else 100, if twice the PULL is what it BEARS or more, "
            + "else 200 times the PULL over what it BEARS, cut.");
        int[][] due = {
            {98, 0, 0}, {98, 1, 2}, {98, 48, 97}, {98, 49, 100}, {98, 50, 100}, {98, 98, 100}, {98, 99, 0},
            {99, 0, 0}, {99, 1, 2}, {99, 49, 98}, {99, 50, 100}, {99, 99, 100},
            {1, 0, 0}, {1, 1, 100}, {1, 2, 0}, {2, 1, 100}, {2, 2, 100}, {2, 3, 0}, {3, 1, 66}, {3, 2, 100}, {3, 4, 0},
            {50, 1, 4}, {50, 24, 96}, {50, 25, 100}, {40, 10, 50}, {80, 39, 97}, {64, 31, 96}, {64, 32, 100}};
        for (int[] d : due) {
            TinString x = Check.with("stuff a " + d[0] + " 0 0 0 0;tin t 100 100 100 100;");
            x.line(0, 0, 1, d[1]);
            e.due("by " + d[1] + " of " + d[0], x.bears(1), d[2]);
            e.due("through by " + d[1] + " of " + d[0], x.through(1, 0), 10 * d[2]);
        }
        // What BEARS nothing and is pulled by nothing: there is nothing to divide by.
        TinString x = Check.with("stuff a 1 0 0 0 0;tin t 100 100 100 100;wind 1;");
        e.due("SLACK", x.bears(1), 0);
        e.due("not SNAPPED", x.bears(2), 0);
    }

    private void bearsRefused() {
        e.says("12", "STATE: there is no STUFF; RANGE");
        for (String text : new String[] {"", "tin t 1 1 1 1;word w 1 1 1 1;"}) {
            TinString x = Check.with(text);
            x.bend(-1);
            for (int what = 0; what <= 4; what++) {
                e.due("bears " + what, x.bears(what), Edges.STATE);
            }
            for (int what : new int[] {-1, 5, Edges.MOST, Edges.LEAST}) {
                e.due("bears " + what, x.bears(what), Edges.RANGE);
            }
        }
        TinString x = Check.with("stuff a 7 0 0 0 0;");
        e.due("without a TIN", x.bears(0), 7);
        for (int what : new int[] {-1, 5, Edges.MOST, Edges.LEAST}) {
            e.due("bears " + what, x.bears(what), Edges.RANGE);
        }
    }

    private void loops() {
        e.says("II", "a LOOP lets by, of a BAND, (100 less 10 times how far STIFF is from what suits the BAND, without sign) of a hundred");
        for (int stiff = 1; stiff <= 9; stiff++) {
            for (int suits = 0; suits <= 9; suits++) {
                TinString x = tight("stuff s 9 0 0 0 0;tin t 100 100 100 100;loop l " + stiff + " " + suits + " 0 9 " + suits + ";", 1);
                x.bend(0);
                int by = 100 - 10 * Math.max(stiff - suits, suits - stiff);
                e.due("of BAND 0", x.through(1, 0), 10 * by);
                e.due("of BAND 3", x.through(9, 3), 90 * by);
                e.due("where 0 suits", x.through(1, 1), 1000 - 100 * stiff);
                e.due("where 9 suits", x.through(1, 2), 100 + 100 * stiff);
            }
        }
    }

    private void inOrder() {
        e.says("II", "(One behind the other: all BENDS, then all TIES.)");
        // The BEND halves what comes to the TIES, though it came behind them.
        TinString x = tight("stuff s 9 0 0 0 0;tin t 100 100 100 100;loop l 5 0 5 5 5;", 1);
        x.tie(10);
        x.tie(50);
        x.bend(0);
        e.due("what comes to TIE 0", x.share(0, 9, 0), 450);
        e.due("what comes to TIE 1", x.share(1, 9, 0), 2025);
        e.due("what comes through", x.through(9, 0), 2025);
        x.bend(-1);
        e.due("nothing comes to TIE 0", x.share(0, 9, 0), 0);
        e.due("nothing comes to TIE 1", x.share(1, 9, 0), 0);
    }

    private void cutEachTime() {
        e.says("II", "THROUGH of a LOUD v in a BAND: 1000 times v; times what the TIN takes over 100; times HANDS ON over 100; "
            + "then for each yard times (1000 less what is lost) over 1000; then for each BEND and each TIE likewise over 100; "
            + "then times what the TIN takes over 100; each time cut.");
        // Told by a last TIE of 100, which gets all that comes to it: by a TIN of 1 it is 10 for each LOUD to begin with.
        TinString x = Check.with("stuff s 99 100 0 1 999;tin t 1 1 1 1;loop l 5 4 4 4 4;");
        x.line(0, 0, 1, 49);
        x.tie(100);
        // 98 of a hundred: 9.8; uncut it would be 9.79 behind the yard
        e.due("HANDS ON", x.share(0, 1, 1), 9);
        e.due("a yard behind it", x.share(0, 1, 2), 8);
        e.due("a yard that takes all", x.share(0, 1, 3), 0);
        for (int yards = 1; yards <= 12; yards++) {
            x.line(0, 0, yards, 50);
            e.due("each yard takes one, be it never so little", x.share(0, 1, 2), Math.max(0, 10 - yards));
        }
        // nine of ten, four times: 81, 72.9, 64.8, 57.6 (uncut 65.61 and 59.04)
        int[] nineOfTen = {90, 81, 72, 64, 57};
        for (int bends = 0; bends <= 4; bends++) {
            x.straighten();
            for (int i = 0; i < bends; i++) {
                x.bend(0);
            }
            x.tie(100);
            e.due("each BEND", x.share(0, 9, 1), nineOfTen[bends]);
        }
        for (int ties = 0; ties <= 3; ties++) {
            x.straighten();
            for (int i = 0; i < ties; i++) {
                x.tie(10);
            }
            x.tie(100);
            e.due("each TIE", x.share(ties, 9, 1), nineOfTen[ties]);
        }
        // 7.2 of 72 is its SHARE, 64.8 goes on: both are cut
        e.due("a SHARE", x.share(2, 9, 1), 7);
        x.straighten();
        // 0.9
        e.due("the far TIN", x.through(9, 1), 0);
        x = tight("stuff s 9 0 0 1 0;tin t 100 99 100 33;", 1);
        // 990 times 99 is 98010; 1000 times 999 is 999000; 330 times 33 is 10890
        e.due("all", x.through(1, 0), 1000);
        e.due("980.1", x.through(1, 1), 980);
        e.due("999", x.through(1, 2), 999);
        e.due("108.9", x.through(1, 3), 108);
    }

    private void through() {
        e.says("13", "THROUGH of a LOUD (0 .. 9) in a BAND; RANGE");
        TinString x = tight("stuff s 9 0 10 100 500;tin t 100 100 100 100;", 1);
        e.due("the least LOUD", x.through(0, 0), 0);
        int[] keeps = {1000, 990, 900, 500};
        for (int b = 0; b < 4; b++) {
            for (int loud = 0; loud <= 9; loud++) {
                e.due("LOUD " + loud + " in " + b, x.through(loud, b), loud * keeps[b]);
            }
        }
        for (int wrong : new int[] {-1, 10, Edges.MOST, Edges.LEAST}) {
            e.due("LOUD " + wrong, x.through(wrong, 0), Edges.RANGE);
        }
        for (int wrong : new int[] {-1, 4, Edges.MOST, Edges.LEAST}) {
            e.due("BAND " + wrong, x.through(0, wrong), Edges.RANGE);
        }
    }

    private void share() {
        e.says("14", "A SHARE of TIE k, of a LOUD (0 .. 9) in a BAND; RANGE");
        e.says("II", "A SHARE of TIE k: what comes to it times its hundredth over 100 (cut)");
        TinString x = tight("stuff s 9 0 10 100 500;tin t 100 100 100 50;", 1);
        for (int ties = 0; ties <= 4; ties++) {
            for (int k = 0; k < 4; k++) {
                e.due("TIE " + k + " of " + ties, x.share(k, 9, 0), k < ties ? 0 : Edges.RANGE);
            }
            for (int k : new int[] {-1, 4, Edges.MOST, Edges.LEAST}) {
                e.due("TIE " + k + " of " + ties, x.share(k, 9, 0), Edges.RANGE);
            }
            x.tie(0);
        }
        x.straighten();
        x.tie(33);
        e.due("the least LOUD", x.share(0, 0, 0), 0);
        e.due("the greatest", x.share(0, 9, 0), 2970);
        e.due("326.7 of 990", x.share(0, 1, 1), 326);
        e.due("the far TIN takes nothing of it", x.share(0, 1, 3), 82);
        for (int wrong : new int[] {-1, 10, Edges.MOST, Edges.LEAST}) {
            e.due("LOUD " + wrong, x.share(0, wrong, 0), Edges.RANGE);
        }
        for (int wrong : new int[] {-1, 4, Edges.MOST, Edges.LEAST}) {
            e.due("BAND " + wrong, x.share(0, 0, wrong), Edges.RANGE);
        }
    }

    private void level() {
        e.says("II", "LEVEL: THROUGH over 500, cut, 9 at most.");
        e.says("15", "LEVEL of a WORD in a BAND; RANGE");
        // THROUGH by LOUD 1 to 5 (4 yards of nothing lost in BAND 0): just at, and one below.
        TinString x = tight("stuff s 9 500 501 0 1;tin t 100 100 100 100;word a 0 0 0 0;word b 1 1 1 1;word c 9 9 4 9;word d 2 2 5 5;"
            + "word e 0 0 9 0;word f 0 0 0 9;", 1);
        int[][] through = {{0, 0, 0, 0}, {500, 499, 1000, 999}, {4500, 4491, 4000, 8991}, {1000, 998, 5000, 4995}, {0, 0, 9000, 0}};
        int[][] levels = {{0, 0, 0, 0}, {1, 0, 2, 1}, {9, 8, 8, 9}, {2, 1, 9, 9}, {0, 0, 9, 0}};
        for (int w = 0; w < levels.length; w++) {
            for (int b = 0; b < 4; b++) {
                e.due("THROUGH", x.through(x.band(2, w, b), b), through[w][b]);
                e.due("LEVEL of " + through[w][b], x.level(w, b), levels[w][b]);
            }
        }
        e.due("the last WORD", x.level(5, 3), 9);
        for (int wrong : new int[] {-1, 6, Edges.MOST, Edges.LEAST}) {
            e.due("WORD " + wrong, x.level(wrong, 0), Edges.RANGE);
        }
        for (int wrong : new int[] {-1, 4, Edges.MOST, Edges.LEAST}) {
            e.due("BAND " + wrong, x.level(0, wrong), Edges.RANGE);
        }
        for (int words = 0; words <= 5; words++) {
            x = Check.with("stuff s 9 0 0 0 0;tin t 1 1 1 1;" + Edges.many("word # 1 1 1 1;", words));
            e.due("no WORD " + words, x.level(words, 0), Edges.RANGE);
            e.due("the last of " + words, x.level(words - 1, 0), words == 0 ? Edges.RANGE : 0);
        }
    }

    private void state() {
        for (String lacks : new String[] {"", "stuff s 9 0 0 0 0;", "tin t 1 1 1 1;"}) {
            TinString x = Check.with(lacks + "word w 1 1 1 1;");
            x.tie(5);
            e.says("13", "STATE: there is no STUFF or no TIN");
            e.due("through of [" + lacks + "]", x.through(0, 0), Edges.STATE);
            e.due("through of [" + lacks + "]", x.through(9, 3), Edges.STATE);
            e.due("through of [" + lacks + "]", x.through(10, 3), Edges.RANGE);
            e.due("through of [" + lacks + "]", x.through(9, 4), Edges.RANGE);
            e.says("14", "STATE likewise");
            e.due("share of [" + lacks + "]", x.share(0, 0, 0), Edges.STATE);
            e.due("share of [" + lacks + "]", x.share(1, 0, 0), Edges.RANGE);
            e.due("share of [" + lacks + "]", x.share(0, 10, 0), Edges.RANGE);
            e.due("share of [" + lacks + "]", x.share(0, 0, 4), Edges.RANGE);
            e.says("15", "STATE likewise");
            e.due("level of [" + lacks + "]", x.level(0, 0), Edges.STATE);
            e.due("level of [" + lacks + "]", x.level(1, 0), Edges.RANGE);
            e.due("level of [" + lacks + "]", x.level(0, 4), Edges.RANGE);
        }
        // SLACK or SNAPPED is no STATE.
        TinString x = Check.with("stuff s 9 0 0 0 0;tin t 1 1 1 1;word w 1 1 1 1;");
        x.tie(5);
        e.due("slack", x.through(9, 0) + x.share(0, 9, 0) + x.level(0, 0), 0);
        x.line(0, 0, 1, 10);
        e.due("snapped", x.through(9, 0) + x.share(0, 9, 0) + x.level(0, 0), 0);
    }
}
