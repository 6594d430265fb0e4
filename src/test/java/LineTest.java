/** Promises 8 to 15: the LINE and what comes through it. */
public final class LineTest {
    private static final Check c = new Check();

    private static void promise8() {
        TinString x = new TinString();
        c.due("no stuff", x.line(0, 0, 10, 0), TinString.RANGE);
        x = Check.with("stuff a 40 0 0 0 0;stuff b 20 0 0 0 0;tin t 100 100 100 100;tin u 50 50 50 50;");
        c.due("line", x.line(1, 1, 1, 0), 1);
        c.due("line", x.line(0, 0, 400, 99), 1);
        int[][] wrong = {{2, 0, 10, 0}, {-1, 0, 10, 0}, {0, 2, 10, 0}, {0, -1, 10, 0}, {0, 0, 0, 0}, {0, 0, 401, 0},
            {0, 0, -5, 0}, {0, 0, 10, -1}, {0, 0, 10, 100}, {0, 0, Integer.MAX_VALUE, 0}, {0, 0, 10, Integer.MIN_VALUE}};
        c.due("line", x.line(1, 1, 7, 20), 1);
        for (int[] w : wrong) {
            c.due("wrong line", x.line(w[0], w[1], w[2], w[3]), TinString.RANGE);
        }
        // What it refused changed nothing: 9 times 50 of 100, twice.
        c.due("bears", x.bears(0), 20);
        c.due("hands on", x.bears(1), 100);
        c.due("through", x.through(9, 2), 2250);
        x.bend(-1);
        x.tie(50);
        c.due("line", x.line(0, 0, 10, 20), 1);
        c.due("bends stay", x.bears(3), 1);
        c.due("ties stay", x.bears(4), 1);
    }

    private static void promises9to11() {
        TinString x = new TinString();
        c.due("no loop 0", x.bend(0), TinString.RANGE);
        c.due("bare", x.bend(-1), 1);
        c.due("tie", x.tie(0), 1);
        c.due("tie", x.tie(100), 2);
        c.due("tie below", x.tie(-1), TinString.RANGE);
        c.due("tie above", x.tie(101), TinString.RANGE);
        c.due("tie", x.tie(50), 3);
        c.due("bare", x.bend(-1), 2);
        c.due("straighten", x.straighten(), 5);
        c.due("straighten", x.straighten(), 0);
        x = Check.with("stuff a 9 0 0 0 0;loop l 1 1 1 1 1;loop m 1 1 1 1 1;");
        c.due("bend", x.bend(1), 1);
        c.due("bend", x.bend(0), 2);
        c.due("bend", x.bend(-1), 3);
        c.due("no loop", x.bend(2), TinString.RANGE);
        c.due("no loop", x.bend(-2), TinString.RANGE);
        c.due("bend", x.bend(-1), 4);
        c.due("a fifth", x.bend(0), TinString.FULL);
        c.due("a fifth bare", x.bend(-1), TinString.FULL);
        c.due("RANGE ahead of FULL", x.bend(2), TinString.RANGE);
        for (int i = 1; i <= 4; i++) {
            c.due("tie", x.tie(25 * i), i);
        }
        c.due("a fifth", x.tie(0), TinString.FULL);
        c.due("RANGE ahead of FULL", x.tie(101), TinString.RANGE);
        c.due("bends", x.bears(3), 4);
        c.due("ties", x.bears(4), 4);
        c.due("straighten", x.straighten(), 8);
        x.bend(-1);
        x.tie(1);
        x.tie(2);
        c.due("bends", x.bears(3), 1);
        c.due("ties", x.bears(4), 2);
        c.due("straighten", x.straighten(), 3);
        c.due("bends", x.bears(3), 0);
        c.due("ties", x.bears(4), 0);
    }

    private static void bears(String text, int pull, int bears, int hands, int snapped) {
        TinString x = Check.with(text + "tin t 100 100 100 100;");
        c.due("line", x.line(0, 0, 1, pull), 1);
        c.due(text + pull + " bears", x.bears(0), bears);
        c.due(text + pull + " hands on", x.bears(1), hands);
        c.due(text + pull + " snapped", x.bears(2), snapped);
        c.due(text + pull + " through", x.through(1, 0), 10 * hands);
    }

    private static void promise12() {
        TinString x = new TinString();
        for (int what = 0; what <= 4; what++) {
            c.due("no stuff " + what, x.bears(what), TinString.STATE);
        }
        c.due("RANGE first", x.bears(-1), TinString.RANGE);
        c.due("RANGE first", x.bears(5), TinString.RANGE);
        x = Check.with("stuff a 9 0 0 0 0;");
        c.due("no tin is needed", x.bears(0), 9);
        // 40 times 50 over 100, less 2
        String s = "stuff a 40 0 0 0 0;wet 50;wind 2;";
        bears(s, 0, 18, 0, 0);
        bears(s, 1, 18, 11, 0);
        bears(s, 4, 18, 44, 0);
        bears(s, 8, 18, 88, 0);
        bears(s, 9, 18, 100, 0);
        bears(s, 18, 18, 100, 0);
        bears(s, 19, 18, 0, 1);
        bears(s, 99, 18, 0, 1);
        // 99 times 90 over 100 is 89.1; of 17 only 8 is under the half
        bears("stuff a 99 0 0 0 0;wet 10;", 44, 89, 98, 0);
        bears("stuff a 99 0 0 0 0;wet 10;", 45, 89, 100, 0);
        bears("stuff a 17 0 0 0 0;", 8, 17, 94, 0);
        bears("stuff a 17 0 0 0 0;", 9, 17, 100, 0);
        // nothing is below 0, and a slack string of no strength isn't snapped
        bears("stuff a 9 0 0 0 0;wet 90;", 0, 0, 0, 0);
        bears("stuff a 9 0 0 0 0;wet 90;", 1, 0, 0, 1);
        bears("stuff a 5 0 0 0 0;wind 50;", 0, 0, 0, 0);
        bears("stuff a 1 0 0 0 0;", 1, 1, 100, 0);
        bears("stuff a 1 0 0 0 0;", 2, 1, 0, 1);
    }

    private static void promise13() {
        TinString x = new TinString();
        c.due("no line", x.through(0, 0), TinString.STATE);
        c.due("RANGE first", x.through(10, 0), TinString.RANGE);
        x = Check.with("stuff a 40 0 0 0 0;");
        c.due("no tin", x.through(0, 0), TinString.STATE);
        x = Check.with("tin a 40 0 0 0;");
        c.due("no stuff", x.through(0, 0), TinString.STATE);
        x = Check.with("stuff a 30 37 0 1 999;tin t 73 100 100 100;loop l 3 3 5 0 9;");
        x.line(0, 0, 3, 7);
        for (int[] w : new int[][] {{-1, 0}, {10, 0}, {0, -1}, {0, 4}}) {
            c.due("RANGE", x.through(w[0], w[1]), TinString.RANGE);
        }
        // 7000 * 73 / 100 = 5110; * 46 / 100 = 2350; * 963 / 1000: 2263, 2179, 2098; * 73 / 100 = 1531
        c.due("cut each time", x.through(7, 0), 1531);
        c.due("no loud", x.through(0, 0), 0);
        // 9000 * 46 / 100 = 4140
        c.due("no loss", x.through(9, 1), 4140);
        // 4140 * 999 / 1000: 4135, 4130, 4125
        c.due("least loss", x.through(9, 2), 4125);
        c.due("4, 0, 0", x.through(9, 3), 0);
        // a loop of 3 where 3, 5, 0, 9 suit: 100, 80, 70, 40 of a hundred; behind the yards and ahead of the tin
        x.bend(0);
        c.due("2098 as it is", x.through(7, 0), 1531);
        c.due("80 of a hundred", x.through(9, 1), 3312);
        c.due("4125 * 70 / 100", x.through(9, 2), 2887);
        x.tie(33);
        // 2098 * 67 / 100 = 1405; * 73 / 100 = 1025
        c.due("past a tie", x.through(7, 0), 1025);
        // 3312 * 67 / 100 = 2219
        c.due("past a tie", x.through(9, 1), 2219);
        x.tie(100);
        c.due("all tied off", x.through(9, 1), 0);
        x.straighten();
        x.bend(-1);
        c.due("bare", x.through(9, 1), 0);
        x.straighten();
        x.line(0, 0, 3, 31);
        c.due("snapped", x.through(9, 1), 0);
        x.line(0, 0, 3, 0);
        c.due("slack", x.through(9, 1), 0);
        x.line(0, 0, 1, 30);
        // 9000 * 73 / 100 = 6570, * 963 / 1000 = 6326, * 73 / 100 = 4617
        c.due("one yard", x.through(9, 0), 4617);
        x = Check.with("stuff a 30 1 0 0 0;tin t 100 100 100 100;");
        x.line(0, 0, 400, 30);
        int v = 9000;
        for (int i = 0; i < 400; i++) {
            v -= (v + 999) / 1000;
        }
        c.due("400 yards, a thousandth each", x.through(9, 0), v);
    }

    private static void promise14() {
        TinString x = new TinString();
        c.due("no tie", x.share(0, 1, 0), TinString.RANGE);
        x.tie(10);
        c.due("no line", x.share(0, 1, 0), TinString.STATE);
        c.due("RANGE first", x.share(1, 1, 0), TinString.RANGE);
        x = Check.with("stuff a 30 0 100 0 0;tin t 100 100 50 99;loop l 5 5 5 5 6;");
        x.line(0, 0, 2, 15);
        x.tie(25);
        x.bend(0);
        x.tie(33);
        x.tie(0);
        x.tie(100);
        c.due("no tie", x.share(-1, 1, 0), TinString.RANGE);
        c.due("no tie", x.share(4, 1, 0), TinString.RANGE);
        for (int[] w : new int[][] {{-1, 0}, {10, 0}, {1, -1}, {1, 4}}) {
            c.due("RANGE", x.share(0, w[0], w[1]), TinString.RANGE);
        }
        c.due("no loud", x.share(0, 0, 0), 0);
        // bends come ahead of all ties; 9000, 6750, 4522, 4522
        c.due("share 0", x.share(0, 9, 0), 2250);
        c.due("share 1", x.share(1, 9, 0), 2227);
        c.due("share 2", x.share(2, 9, 0), 0);
        c.due("share 3", x.share(3, 9, 0), 4522);
        c.due("through", x.through(9, 0), 0);
        // 9000, 8100, 7290
        c.due("share 0 behind two yards", x.share(0, 9, 1), 1822);
        // the far tin takes nothing of a share: 4500
        c.due("share 0 by a tin of 50", x.share(0, 9, 2), 1125);
        // 1000 * 99 / 100 = 990, * 90 / 100 = 891: 222; 668: 220
        c.due("share 0 behind a bend", x.share(0, 1, 3), 222);
        c.due("share 1 behind a bend", x.share(1, 1, 3), 220);
    }

    private static void promise15() {
        TinString x = Check.with("word w 1 1 1 1;");
        c.due("no line", x.level(0, 0), TinString.STATE);
        c.due("RANGE first", x.level(1, 0), TinString.RANGE);
        x = Check.with("stuff a 30 0 0 0 0;tin t 100 50 100 71;word w 9 9 4 1;word v 5 4 0 2;");
        x.line(0, 0, 9, 30);
        int[][] want = {{9, 4, 8, 1}, {9, 2, 0, 2}};
        for (int w = 0; w < 2; w++) {
            for (int b = 0; b < 4; b++) {
                c.due("level " + w + " " + b, x.level(w, b), want[w][b]);
            }
            c.due("RANGE", x.level(w, 4), TinString.RANGE);
            c.due("RANGE", x.level(w, -1), TinString.RANGE);
        }
        c.due("RANGE", x.level(2, 0), TinString.RANGE);
        c.due("RANGE", x.level(-1, 0), TinString.RANGE);
        // 1000 * 71 / 100 = 710, * 71 / 100 = 504: just a 1; with 70 it is 490
        x = Check.with("stuff a 30 0 0 0 0;tin t 70 70 70 70;word w 1 1 1 1;");
        x.line(0, 0, 9, 30);
        c.due("cut", x.level(0, 3), 0);
    }

    public static void main(String[] args) {
        promise8();
        promises9to11();
        promise12();
        promise13();
        promise14();
        promise15();
        c.end();
    }
}
