/** Boundary cases of term IV, its STREETS and TAPS, and of promises 31 to 35. */
final class EdgesHouses {
    private final Edges e;

    EdgesHouses(Edges e) {
        this.e = e;
    }

    void all() {
        roots();
        barred();
        yardsRefused();
        wish();
        leastOfNothing();
        leastOver();
        leastBits();
        leastRefused();
        taps();
        tapsRefused();
        tapRow();
        tapRowRefused();
    }

    private static TinString two(String a, String b, String posts) {
        return Check.with("house a " + a + ";house b " + b + ";" + posts);
    }

    private void roots() {
        e.says("31", "Yards of the string between two HOUSES");
        e.says("IV", "STREETS: a straight string between two HOUSES is so many yards as the least whole number the square of which "
            + "is not below the sum of both squares of how far x and y are apart");
        // How far apart, and the yards: 80, 81, 82 about the square of 9; 9800 and 9802 about 99 squared; the farthest 19602.
        int[][] due = {{0, 1, 1}, {1, 0, 1}, {1, 1, 2}, {2, 0, 2}, {2, 1, 3}, {8, 4, 9}, {9, 0, 9}, {9, 1, 10}, {0, 10, 10}, {3, 4, 5},
            {99, 0, 99}, {99, 1, 100}, {70, 70, 99}, {99, 14, 100}, {99, 99, 141}, {98, 99, 140}, {80, 60, 100}, {80, 61, 101}, {79, 60, 100}};
        for (int[] d : due) {
            String far = d[0] + " " + d[1];
            e.due("0 0 to " + far, two("0 0", far, "").yards(0, 1), d[2]);
            e.due(far + " to 0 0", two("0 0", far, "").yards(1, 0), d[2]);
            e.due("99 99 from " + far, two("99 99", (99 - d[0]) + " " + (99 - d[1]), "").yards(0, 1), d[2]);
            e.due("across", two("0 99", d[0] + " " + (99 - d[1]), "").yards(1, 0), d[2]);
        }
        for (int x = 0; x <= 99; x += 3) {
            for (int y = 1; y <= 99; y += 7) {
                long n = two("0 0", x + " " + y, "").yards(0, 1);
                e.must("squares about " + x + " " + y, n * n >= x * x + y * y && (n - 1) * (n - 1) < x * x + y * y);
            }
        }
    }

    private void barred(String a, String b, String post, boolean on) {
        TinString x = two(a, b, "post " + post + ";");
        TinString free = two(a, b, "");
        long due = on ? Edges.NONE : free.yards(0, 1);
        e.due(a + " to " + b + " by a POST at " + post, x.yards(0, 1), due);
        e.due("and back", x.yards(1, 0), due);
        // The last of four POSTS bars as the first one does.
        x = two(a, b, "post 97 0;post 97 1;post 97 2;post " + post + ";");
        e.due("the last of four", x.yards(0, 1), due);
    }

    private void barred() {
        e.says("31", "NONE: it is barred");
        e.says("IV", "it is barred, if a POST is on it (on the straight between, its ends too).");
        String[][] on = {
            {"5 5", "9 5", "5 5"}, {"5 5", "9 5", "9 5"}, {"5 5", "9 5", "7 5"}, {"5 5", "5 9", "5 5"}, {"5 5", "5 9", "5 9"}, {"5 5", "5 9", "5 6"},
            {"5 5", "9 9", "5 5"}, {"5 5", "9 9", "9 9"}, {"5 5", "9 9", "8 8"}, {"5 9", "9 5", "6 8"}, {"5 9", "9 5", "5 9"}, {"5 9", "9 5", "9 5"},
            {"0 0", "99 99", "98 98"}, {"0 0", "99 33", "3 1"}, {"0 0", "99 33", "96 32"}, {"0 99", "98 1", "49 50"}, {"0 0", "2 4", "1 2"},
            {"0 0", "0 1", "0 0"}, {"0 0", "1 0", "1 0"}};
        for (String[] o : on) {
            barred(o[0], o[1], o[2], true);
        }
        String[][] off = {
            {"5 5", "9 5", "4 5"}, {"5 5", "9 5", "10 5"}, {"5 5", "9 5", "7 6"}, {"5 5", "9 5", "7 4"}, {"5 5", "5 9", "5 4"}, {"5 5", "5 9", "5 10"},
            {"5 5", "5 9", "4 7"}, {"5 5", "5 9", "6 7"}, {"5 5", "9 9", "4 4"}, {"5 5", "9 9", "10 10"}, {"5 5", "9 9", "7 8"}, {"5 5", "9 9", "8 7"},
            {"5 9", "9 5", "4 10"}, {"5 9", "9 5", "10 4"}, {"5 9", "9 5", "6 6"}, {"0 0", "99 98", "98 97"}, {"0 0", "99 98", "1 1"},
            {"0 0", "98 99", "97 98"}, {"0 0", "2 4", "1 1"}, {"0 0", "2 4", "3 6"}, {"5 5", "9 9", "9 5"}, {"5 5", "9 9", "5 9"}, {"5 5", "9 5", "5 9"}};
        for (String[] o : off) {
            barred(o[0], o[1], o[2], false);
        }
        // A HOUSE on the straight bars nothing.
        TinString x = Check.with("house a 0 0;house b 8 0;house c 4 0;");
        e.due("over a HOUSE", x.yards(0, 1), 8);
    }

    private void yardsRefused() {
        e.says("31", "RANGE: no such, or alike");
        for (int many = 0; many <= 5; many++) {
            TinString x = Check.with(Edges.many("house # % 0;", many) + "post 0 0;");
            for (int a = -1; a <= 6; a++) {
                for (int b = -1; b <= 6; b++) {
                    boolean both = a != b && a >= 0 && b >= 0 && a < many && b < many;
                    int yards = a == 0 || b == 0 ? Edges.NONE : Math.abs(a - b);
                    e.due("yards " + a + " " + b + " of " + many, x.yards(a, b), both ? yards : Edges.RANGE);
                }
            }
            for (int far : new int[] {Edges.MOST, Edges.LEAST}) {
                e.due("yards " + far, x.yards(far, 0), Edges.RANGE);
                e.due("yards " + far, x.yards(0, far), Edges.RANGE);
                e.due("yards " + far, x.yards(far, far), Edges.RANGE);
            }
        }
    }

    private void wish() {
        e.says("32", "A WISH that two HOUSES hear one another (again: nothing more): how many there are; RANGE: no such, or alike");
        e.says("IV", "WISHES: pairs of HOUSES.");
        for (int many = 0; many <= 5; many++) {
            TinString x = Check.with(Edges.many("house # % 0;", many));
            int wishes = 0;
            for (int a = -1; a <= 5; a++) {
                for (int b = -1; b <= 5; b++) {
                    boolean both = a != b && a >= 0 && b >= 0 && a < many && b < many;
                    wishes += both && a < b ? 1 : 0;
                    e.due("wish " + a + " " + b + " of " + many, x.wish(a, b), both ? wishes : Edges.RANGE);
                    e.due("again", x.wish(b, a), both ? wishes : Edges.RANGE);
                    e.due("WISHES", x.count(3), wishes);
                }
            }
            e.due("all pairs", x.count(3), many * (many - 1) / 2);
            for (int far : new int[] {Edges.MOST, Edges.LEAST}) {
                e.due("wish " + far, x.wish(far, 0), Edges.RANGE);
                e.due("wish " + far, x.wish(0, far), Edges.RANGE);
                e.due("wish " + far, x.wish(far, far), Edges.RANGE);
            }
        }
        // What is barred may be wished.
        TinString x = two("0 0", "2 0", "post 1 0;");
        e.due("barred", x.wish(0, 1), 1);
    }

    private void leastOfNothing() {
        e.says("33", "LEAST STRING over at most so many strings (1 .. 4), what 0: yards, 1: the strings as bits; NONE: there is none");
        for (int many = 0; many <= 5; many++) {
            TinString x = Check.with(Edges.many("house # % 0;", many) + "post 0 0;post 1 0;post 2 0;post 3 0;");
            for (int most = 1; most <= 4; most++) {
                e.due("without WISHES", x.least(most, 0), 0);
                e.due("without WISHES", x.least(most, 1), 0);
            }
            if (many > 1) {
                x.wish(0, 1);
                for (int most = 1; most <= 4; most++) {
                    e.due("where all are barred", x.least(most, 0), Edges.NONE);
                    e.due("where all are barred", x.least(most, 1), Edges.NONE);
                }
            }
        }
    }

    private void leastOver() {
        e.says("IV", "LEAST STRING: the set of strings that aren't barred (all pairs of HOUSES, by the lesser, then the other, as bits) "
            + "with the fewest yards together by which each WISH has a way from the one to the other over at most so many strings");
        // Four POSTS leave but 0-1, 1-2, 2-3, 3-4: bits 0, 4, 7, 9.
        TinString x = Check.with("house a 3 8;house b 6 8;house c 3 6;house d 0 8;house e 3 2;post 1 8;post 3 3;post 3 7;post 4 4;");
        int[][] yards = {{3, Edges.NONE, Edges.NONE, Edges.NONE}, {4, Edges.NONE, Edges.NONE}, {4, Edges.NONE}, {7}};
        for (int a = 0; a < 5; a++) {
            for (int b = a + 1; b < 5; b++) {
                e.due("yards " + a + " " + b, x.yards(a, b), yards[a][b - a - 1]);
            }
        }
        int[] bits = {1, 16, 128, 512};
        for (int a = 0; a < 5; a++) {
            for (int b = 0; b < 5; b++) {
                if (a != b) {
                    chain(a, b, yards, bits);
                }
            }
        }
        // A WISH by a WISH: the longest decides.
        x.wish(0, 1);
        x.wish(2, 4);
        for (int most = 1; most <= 4; most++) {
            e.due("two WISHES", x.least(most, 0), most == 1 ? Edges.NONE : 3 + 4 + 7);
            e.due("two WISHES", x.least(most, 1), most == 1 ? Edges.NONE : 1 + 128 + 512);
        }
        // No string to spare: over one string each WISH needs its own, over two it may go by another's.
        x = Check.with("house a 0 0;house b 3 4;house c 6 8;");
        x.wish(0, 1);
        x.wish(1, 2);
        x.wish(0, 2);
        e.due("over one", x.least(1, 0), 20);
        e.due("over one", x.least(1, 1), 7);
        e.due("over two", x.least(2, 0), 10);
        e.due("over two", x.least(2, 1), 5);
    }

    private void chain(int a, int b, int[][] yards, int[] bits) {
        TinString x = Check.with("house a 3 8;house b 6 8;house c 3 6;house d 0 8;house e 3 2;post 1 8;post 3 3;post 3 7;post 4 4;");
        x.wish(a, b);
        int sum = 0;
        int set = 0;
        for (int i = Math.min(a, b); i < Math.max(a, b); i++) {
            sum += yards[i][0];
            set += bits[i];
        }
        for (int most = 1; most <= 4; most++) {
            boolean far = Math.abs(a - b) > most;
            e.due("wish " + a + " " + b + " over " + most, x.least(most, 0), far ? Edges.NONE : sum);
            e.due("wish " + a + " " + b + " over " + most, x.least(most, 1), far ? Edges.NONE : set);
        }
    }

    private void leastBits() {
        e.says("IV", "of alike ones the least bits.");
        // A square, its sides 10: from corner to corner two ways of 20, the straight of 15 is barred.
        TinString x = Check.with("house a 0 0;house b 10 0;house c 0 10;house d 10 10;post 5 5;");
        x.wish(0, 3);
        e.due("yards", x.least(2, 0), 20);
        // 0-1 and 1-3 are bits 0 and 4, 0-2 and 2-3 bits 1 and 5
        e.due("the least bits", x.least(2, 1), 17);
        e.due("over one", x.least(1, 1), Edges.NONE);
        // All in a row: the straight over 4 HOUSES is as long as four strings; it alone is bit 3 of 10.
        x = Check.with(Edges.many("house # %0 0;", 5));
        x.wish(0, 4);
        for (int most = 1; most <= 4; most++) {
            e.due("as long", x.least(most, 0), 40);
            e.due("one string: 8; 0-1 and 1-4: 65; 0-2 and 2-4: 258; 0-3 and 3-4: 516", x.least(most, 1), 8);
        }
        // Each pair has its bit, whichever is told first.
        for (int many = 2; many <= 5; many++) {
            int bit = 0;
            for (int a = 0; a < many; a++) {
                for (int b = a + 1; b < many; b++) {
                    x = Check.with(Edges.many("house # % %;", many));
                    x.wish(b, a);
                    e.due("pair " + a + " " + b + " of " + many, x.least(1, 1), 1 << bit);
                    bit++;
                }
            }
        }
        // Every pair wished over one string: all bits.
        x = Check.with("house a 0 0;house b 0 9;house c 9 0;house d 9 9;house e 4 5;");
        int all = 0;
        for (int a = 0; a < 5; a++) {
            for (int b = 0; b < a; b++) {
                x.wish(a, b);
                all += x.yards(a, b);
            }
        }
        e.due("all ten", x.least(1, 0), all);
        e.due("all ten", x.least(1, 1), 1023);
    }

    private void leastRefused() {
        e.says("33", "RANGE");
        TinString x = two("0 0", "2 0", "post 1 0;");
        for (int i = 0; i < 2; i++) {
            for (int most : new int[] {0, -1, 5, Edges.MOST, Edges.LEAST}) {
                e.due("over " + most, x.least(most, 0), Edges.RANGE);
                e.due("over " + most, x.least(most, 1), Edges.RANGE);
            }
            for (int what : new int[] {-1, 2, Edges.MOST, Edges.LEAST}) {
                e.due("what " + what, x.least(1, what), Edges.RANGE);
                e.due("what " + what, x.least(4, what), Edges.RANGE);
            }
            // Then with a WISH that none grants.
            x.wish(0, 1);
        }
    }

    private static long tapsOf(String row) {
        TinString x = new TinString();
        Check.lay(x, row);
        return x.taps();
    }

    private void taps() {
        e.says("34", "THE TAPE is WEIGHTS {N} (0 .. 9999 each, 1 .. 16 of them): LASTS together");
        e.says("IV", "Of letters with WEIGHTS the heaviest (the first of alike ones) has the first ROW, and so on: "
            + "LASTS together: the sum of WEIGHTS times how long ROWS last.");
        int[] lasts = {1, 3, 3, 5, 5, 5, 7, 7, 7, 7, 7, 9, 9, 9, 9, 9};
        StringBuilder ones = new StringBuilder();
        StringBuilder most = new StringBuilder();
        StringBuilder none = new StringBuilder();
        StringBuilder rising = new StringBuilder();
        StringBuilder falling = new StringBuilder();
        int sum = 0;
        int ordered = 0;
        for (int k = 0; k < 16; k++) {
            ones.append("1 ");
            most.append("9999\n");
            none.append("0 ");
            rising.append(1000 + k).append(' ');
            falling.append(9999 - k).append(' ');
            sum += lasts[k];
            e.due("ones, " + (k + 1), tapsOf(ones.toString()), sum);
            e.due("the most, " + (k + 1), tapsOf(most.toString()), sum * 9999);
            e.due("nothing, " + (k + 1), tapsOf(none.toString()), 0);
            ordered += (9999 - k) * lasts[k];
            e.due("falling, " + (k + 1), tapsOf(falling.toString()), ordered);
            int heaviest = 0;
            for (int i = 0; i <= k; i++) {
                heaviest += (1000 + k - i) * lasts[i];
            }
            e.due("rising, " + (k + 1), tapsOf(rising.toString()), heaviest);
        }
        e.due("0 is a WEIGHT too", tapsOf("0 0 1"), 1);
        e.due("0 is a WEIGHT too", tapsOf("0"), 0);
        e.due("the heaviest at the end of a full TAPE", tapsOf(" ".repeat(890) + "2 3 4 9999"), 9999 + 12 + 9 + 10);
        e.due("four digits", tapsOf("0001"), 1);
    }

    private void tapsRefused() {
        e.says("34", "NONE: it is no such row");
        String sixteen = "1 ".repeat(16);
        for (String row : new String[] {"", " ", "\n", " ".repeat(900), sixteen + "1", "0 ".repeat(17), "1 ".repeat(450), "10000", "00001", "1 10000",
            "a", "1 a", "a 1", "1a", ";", "1;", "1 ;", ";1", "-1", "1.", "1,1", "1\t1", "\0", "1 \u00ff", sixteen + "a", sixteen + ";", sixteen + "10000"}) {
            e.due("[" + row + "]", tapsOf(row), Edges.NONE);
        }
        e.due("sixteen with blanks behind", tapsOf(sixteen + " \n "), 102);
        TinString x = new TinString();
        e.due("none at first", x.taps(), Edges.NONE);
        // One row behind the other, longer ones and shorter ones, each by itself.
        for (String row : new String[] {"7", "8 1", "9", "1 1 1 1", "0007", "x", "5"}) {
            Check.lay(x, row);
            e.due("of [" + row + "]", x.taps(), tapsOf(row));
            e.due("it is empty then", x.taps(), Edges.NONE);
        }
    }

    private void tapRow() {
        e.says("35", "How long ROW k (0 .. 99) of taps lasts (what 0), how many taps it has (1), its taps as bits, the first one highest, 1 a long one (2)");
        e.says("IV", "TAPS: a short one lasts 1, a long one 3, and 1 between two of a row; ROWS: by how long they last, then as words "
            + "(a short one ahead of a long one, a row ahead of those that it begins).");
        // The first and the last ROW of each length: all short ones; as many long ones as there may be, ahead of the rest.
        int[][] due = {{0, 1, 1, 0}, {1, 3, 2, 0}, {2, 3, 1, 1}, {3, 5, 3, 0}, {5, 5, 2, 2}, {6, 7, 4, 0}, {10, 7, 2, 3}, {11, 9, 5, 0}, {18, 9, 3, 6},
            {19, 11, 6, 0}, {31, 11, 3, 7}, {32, 13, 7, 0}, {52, 13, 4, 14}, {53, 15, 8, 0}, {86, 15, 4, 15}, {87, 17, 9, 0}, {99, 17, 6, 7}};
        TinString x = new TinString();
        for (int[] d : due) {
            for (int what = 0; what < 3; what++) {
                e.due("ROW " + d[0] + ", what " + what, x.tapRow(d[0], what), d[what + 1]);
            }
        }
        // Each is what its taps last, and stands behind the one before.
        String before = "";
        int lasted = 0;
        for (int k = 0; k < 100; k++) {
            TinString y = new TinString();
            String row = "";
            int lasts = -1;
            for (int i = y.tapRow(k, 1) - 1; i >= 0; i--) {
                boolean isLong = (y.tapRow(k, 2) >> i & 1) == 1;
                row += isLong ? "l" : "a";
                lasts += isLong ? 4 : 2;
            }
            e.due("ROW " + k + " lasts", y.tapRow(k, 0), lasts);
            e.must("ROW " + k + " is behind the one before", lasts > lasted || lasts == lasted && row.compareTo(before) > 0);
            before = row;
            lasted = lasts;
        }
    }

    private void tapRowRefused() {
        e.says("35", "RANGE");
        TinString x = new TinString();
        for (int what = 0; what < 3; what++) {
            e.must("the first", x.tapRow(0, what) >= 0);
            e.must("the last", x.tapRow(99, what) >= 0);
            for (int k : new int[] {-1, 100, Edges.MOST, Edges.LEAST}) {
                e.due("ROW " + k, x.tapRow(k, what), Edges.RANGE);
            }
        }
        for (int what : new int[] {-1, 3, Edges.MOST, Edges.LEAST}) {
            e.due("what " + what, x.tapRow(0, what), Edges.RANGE);
            e.due("what " + what, x.tapRow(99, what), Edges.RANGE);
            e.due("what " + what, x.tapRow(100, what), Edges.RANGE);
        }
    }
}
