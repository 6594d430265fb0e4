/** Boundary cases of term IV, its ROW, and of promises 23 to 30. */
final class EdgesCells {
    private static final String TICKS = "A TICK: all at once: of what goes to the right in CELL i, v: v times LETS of CELL i over 100 "
        + "(cut towards 0, always here) goes to the right in CELL i and 1, v times BACK over 100 (cut) goes to the left in CELL i less 1; "
        + "of what goes to the left the other way round (LETS to CELL i less 1, BACK to the right in CELL i and 1).";

    private final Edges e;

    EdgesCells(Edges e) {
        this.e = e;
    }

    void all() {
        stretch();
        cell();
        send();
        sentTooMuch();
        ticksAsked();
        allAtOnce();
        cutTowardsNothing();
        comesOut();
        goes();
        out();
        keepAndTake();
        slots();
    }

    private void stretch() {
        e.says("23", "The ROW has n CELLS (2 .. 40), all as at first, nothing came OUT, no TICKS were: n; RANGE");
        e.says("IV", "A ROW of 2 .. 40 CELLS, each with two pulls, one that goes to the right, one to the left, 0 at first.");
        for (int n : new int[] {2, 3, 39, 40}) {
            TinString x = new TinString();
            e.due("stretch", x.stretch(n), n);
            e.due("CELLS", x.count(4), n);
            for (int i = 0; i < n; i++) {
                e.due("to the right", x.goes(i, 0), 0);
                e.due("to the left", x.goes(i, 1), 0);
                e.due("LETS", x.goes(i, 2), 100);
                e.due("BACK", x.goes(i, 3), 0);
            }
            e.due("no CELL " + n, x.goes(n, 2), Edges.OFF);
            e.due("no CELL " + n, x.cell(n, 1, 1), Edges.RANGE);
            e.due("the last one", x.cell(n - 1, 1, 1), 1);
        }
        // What has been is gone, in a row as long, a longer one and a shorter one.
        for (int n : new int[] {2, 3, 40}) {
            for (int wrong : new int[] {1, 0, -1, 41, Edges.MOST, Edges.LEAST}) {
                TinString x = used();
                e.due("stretch " + wrong, x.stretch(wrong), Edges.RANGE);
                e.due("as it was", x.count(4), 3);
                e.due("as it was", x.count(5), 2);
                e.due("as it was", x.out(0), 5);
                e.due("as it was", x.out(1), 4);
                e.due("as it was", x.goes(2, 0), 5);
                e.due("as it was", x.goes(2, 1), 6);
                e.due("as it was", x.goes(0, 3), 50);
                e.due("stretch", x.stretch(n), n);
                e.due("no TICKS", x.count(5), 0);
                e.due("nothing OUT", x.out(0), 0);
                e.due("nothing OUT", x.out(1), 0);
                x.stretch(40);
                for (int i = 0; i < 40; i++) {
                    e.due("as at first", x.goes(i, 0), 0);
                    e.due("as at first", x.goes(i, 1), 0);
                    e.due("as at first", x.goes(i, 2), 100);
                    e.due("as at first", x.goes(i, 3), 0);
                }
            }
        }
    }

    /** Three CELLS after two TICKS: 5 came OUT at the first, 4 at the last; 5 goes to the right in the last and 6 to the left. */
    private static TinString used() {
        TinString x = new TinString();
        x.stretch(3);
        x.cell(0, 50, 50);
        x.cell(2, 0, 100);
        x.send(0, 10);
        x.send(1, 4);
        x.tick(2);
        x.send(1, 6);
        return x;
    }

    private void cell() {
        e.says("24", "A CELL has LETS and BACK: 1; RANGE: no such CELL, numbers");
        e.says("IV", "Of each CELL: LETS 0 .. 100 and BACK 0 .. 100, together 100 at most (100, 0 at first).");
        TinString x = new TinString();
        x.stretch(5);
        int[][] right = {{0, 0}, {0, 100}, {100, 0}, {1, 99}, {99, 1}, {50, 50}, {0, 1}, {1, 0}, {49, 50}};
        for (int[] r : right) {
            for (int i : new int[] {0, 4}) {
                e.due("cell " + i + " " + r[0] + " " + r[1], x.cell(i, r[0], r[1]), 1);
                e.due("LETS", x.goes(i, 2), r[0]);
                e.due("BACK", x.goes(i, 3), r[1]);
                e.due("its neighbour", x.goes(i == 0 ? 1 : 3, 2), 100);
            }
        }
        int[][] wrong = {{-1, 0}, {0, -1}, {101, 0}, {0, 101}, {100, 1}, {1, 100}, {51, 50}, {50, 51}, {101, -1}, {-1, 101}, {100, 100},
            {Edges.MOST, Edges.MOST}, {Edges.MOST, 1}, {1, Edges.MOST}, {Edges.LEAST, 0}, {0, Edges.LEAST}, {Edges.MOST, Edges.LEAST}};
        for (int[] w : wrong) {
            e.due("cell 0 " + w[0] + " " + w[1], x.cell(0, w[0], w[1]), Edges.RANGE);
            e.due("LETS", x.goes(0, 2), 49);
            e.due("BACK", x.goes(0, 3), 50);
        }
        for (int i : new int[] {-1, 5, 39, 40, Edges.MOST, Edges.LEAST}) {
            e.due("cell " + i, x.cell(i, 0, 0), Edges.RANGE);
        }
    }

    private void send() {
        e.says("25", "SENT into the first CELL (side 0) or the last one (1): what goes there then; RANGE");
        e.says("IV", "SENT: a pull of -9999 .. 9999 is put to what goes to the right in CELL 0, or to the left in the last one");
        for (int n : new int[] {2, 3, 40}) {
            TinString x = new TinString();
            x.stretch(n);
            e.due("the most", x.send(0, 9999), 9999);
            e.due("the least", x.send(0, -9999), 0);
            e.due("the least", x.send(0, -9999), -9999);
            e.due("nothing", x.send(0, 0), -9999);
            e.due("the most", x.send(1, 9999), 9999);
            e.due("the least", x.send(1, -9999), 0);
            e.due("one", x.send(1, 1), 1);
            for (int v : new int[] {10000, -10000, Edges.MOST, Edges.LEAST}) {
                e.due("send " + v, x.send(0, v), Edges.RANGE);
                e.due("send " + v, x.send(1, v), Edges.RANGE);
            }
            for (int side : new int[] {-1, 2, Edges.MOST, Edges.LEAST}) {
                e.due("side " + side, x.send(side, 1), Edges.RANGE);
            }
            for (int i = 0; i < n; i++) {
                e.due("to the right in " + i, x.goes(i, 0), i == 0 ? -9999 : 0);
                e.due("to the left in " + i, x.goes(i, 1), i == n - 1 ? 1 : 0);
            }
        }
    }

    private void sentTooMuch() {
        e.says("IV", "(it may be 999999 at most either way: what is more is cut to that, also by TICKS)");
        for (int side = 0; side < 2; side++) {
            for (int sign = -1; sign <= 1; sign += 2) {
                TinString x = new TinString();
                for (int i = 1; i <= 100; i++) {
                    e.due("sent " + i + " times", x.send(side, sign * 9999), sign * 9999 * i);
                }
                e.due("one less", x.send(side, sign * 98), sign * 999998);
                e.due("just so much", x.send(side, sign), sign * 999999);
                e.due("one more", x.send(side, sign), sign * 999999);
                e.due("far more", x.send(side, sign * 9999), sign * 999999);
                e.due("it is cut, not kept above", x.send(side, -sign), sign * 999998);
                e.due("two more", x.send(side, sign * 2), sign * 999999);
                e.due("it goes so", x.goes(side == 0 ? 0 : 1, side), sign * 999999);
            }
        }
        // Two such pulls that meet in a CELL: each by half, so that none goes above.
        TinString x = new TinString();
        x.stretch(3);
        x.cell(1, 50, 50);
        for (int i = 0; i < 101; i++) {
            x.send(0, 9999);
            x.send(1, 9999);
        }
        x.tick(2);
        e.due("to the right in the last", x.goes(2, 0), 999998);
        e.due("to the left in the first", x.goes(0, 1), 999998);
    }

    private void ticksAsked() {
        e.says("26", "So many TICKS (0 .. 400): how many there were in all; RANGE");
        TinString x = new TinString();
        x.send(0, 5);
        e.due("none", x.tick(0), 0);
        e.due("nothing has gone", x.goes(0, 0), 5);
        for (int n : new int[] {-1, 401, Edges.MOST, Edges.LEAST}) {
            e.due("tick " + n, x.tick(n), Edges.RANGE);
            e.due("nothing has gone", x.goes(0, 0), 5);
            e.due("no TICKS", x.count(5), 0);
        }
        e.due("one", x.tick(1), 1);
        e.due("gone on", x.goes(1, 0), 5);
        e.due("the most", x.tick(400), 401);
        e.due("again", x.tick(399), 800);
        for (int i = 3; i <= 100; i++) {
            e.due("in all", x.tick(400), 400 * i);
        }
        e.due("TICKS", x.count(5), 40000);
        // By one TICK less it isn't there yet: 39 to the last of 40, 40 to be OUT.
        for (int n : new int[] {2, 40}) {
            x = new TinString();
            x.stretch(n);
            x.send(0, 7);
            x.send(1, -7);
            x.tick(n - 1);
            e.due("in the last", x.goes(n - 1, 0), 7);
            e.due("in the first", x.goes(0, 1), -7);
            e.due("not OUT", x.out(0) - x.out(1), 0);
            x.tick(1);
            e.due("OUT", x.out(1), 7);
            e.due("OUT", x.out(0), -7);
        }
    }

    private void allAtOnce() {
        e.says("IV", TICKS);
        // 100 each way in the middle one of five, got there by two TICKS.
        TinString x = new TinString();
        x.stretch(5);
        x.send(0, 100);
        x.send(1, 1000);
        x.tick(2);
        e.due("in the middle", x.goes(2, 0), 100);
        e.due("in the middle", x.goes(2, 1), 1000);
        x.cell(2, 60, 30);
        x.cell(1, 0, 100);
        x.cell(3, 0, 100);
        x.tick(1);
        int[][] due = {{0, 0}, {0, 630}, {0, 0}, {360, 0}, {0, 0}};
        for (int i = 0; i < 5; i++) {
            e.due("to the right in " + i, x.goes(i, 0), due[i][0]);
            e.due("to the left in " + i, x.goes(i, 1), due[i][1]);
        }
        // Thrown back: the one of 1 goes to the right in 2, the one of 3 to the left in 2.
        x.tick(1);
        e.due("to the right", x.goes(2, 0), 630);
        e.due("to the left", x.goes(2, 1), 360);
        x.tick(1);
        e.due("to the right", x.goes(3, 0), 630 * 60 / 100 + 360 * 30 / 100);
        e.due("to the left", x.goes(1, 1), 360 * 60 / 100 + 630 * 30 / 100);
    }

    private void cutTowardsNothing() {
        e.says("IV", TICKS);
        // v, LETS, BACK of CELL 1 of three: what goes on, what comes back.
        int[][] due = {{1, 99, 1, 0, 0}, {-1, 99, 1, 0, 0}, {1, 100, 0, 1, 0}, {-1, 100, 0, -1, 0}, {-1, 0, 100, 0, -1},
            {199, 50, 50, 99, 99}, {-199, 50, 50, -99, -99}, {101, 1, 99, 1, 99}, {-101, 1, 99, -1, -99}, {-100, 1, 99, -1, -99},
            {-99, 1, 99, 0, -98}, {9999, 33, 67, 3299, 6699}, {-9999, 33, 67, -3299, -6699}, {-5, 0, 0, 0, 0}};
        for (int[] d : due) {
            for (int side = 0; side < 2; side++) {
                TinString x = new TinString();
                x.stretch(3);
                x.cell(1, d[1], d[2]);
                x.send(side, d[0]);
                x.tick(2);
                e.due(d[0] + " goes on", x.goes(side == 0 ? 2 : 0, side), d[3]);
                e.due(d[0] + " comes back", x.goes(side == 0 ? 0 : 2, 1 - side), d[4]);
                e.due("nothing else", x.goes(1, 0) + x.goes(1, 1), 0);
            }
        }
        // Each is cut by itself: 1.5 and 1.5 are 2 together, -1.5 and 1.5 nothing.
        int[][] both = {{3, 3, 2}, {-3, 3, 0}, {3, -3, 0}, {-3, -3, -2}, {5, -3, 1}, {1, 1, 0}, {-1, -1, 0}};
        for (int[] d : both) {
            TinString x = new TinString();
            x.stretch(3);
            x.cell(1, 50, 50);
            x.send(0, d[0]);
            x.send(1, d[1]);
            x.tick(2);
            e.due(d[0] + " and " + d[1] + " to the right", x.goes(2, 0), d[2]);
            e.due(d[0] + " and " + d[1] + " to the left", x.goes(0, 1), d[2]);
        }
    }

    private void comesOut() {
        e.says("IV", "Beyond the last CELL (the first) it comes OUT there: it is counted (all OUT at each end), and gone.");
        e.says("28", "What came OUT in all at a side");
        // In a row of two both are ends: by LETS and by BACK, of both ways.
        int[][] due = {{100, 0, 0, 0}, {0, 100, 11, 0}, {40, 60, 6, 0}};
        for (int[] d : due) {
            TinString x = new TinString();
            x.cell(0, d[0], d[1]);
            x.send(0, 11);
            x.tick(1);
            e.due("OUT at the first", x.out(0), d[2]);
            e.due("OUT at the last", x.out(1), d[3]);
            e.due("gone", x.goes(0, 0) + x.goes(0, 1), 0);
            TinString y = new TinString();
            y.cell(1, d[0], d[1]);
            y.send(1, -11);
            y.tick(1);
            e.due("OUT at the last", y.out(1), -d[2]);
            e.due("OUT at the first", y.out(0), d[3]);
            e.due("gone", y.goes(1, 0) + y.goes(1, 1), 0);
        }
        // All of it: to and fro, and both signs; it isn't cut to what a pull may be.
        TinString x = new TinString();
        x.cell(0, 0, 100);
        x.cell(1, 0, 100);
        long all = 0;
        for (int i = 1; i <= 160; i++) {
            x.send(0, 9999);
            x.send(1, -9999);
            x.tick(1);
            all += 9999;
        }
        e.due("OUT at the first", x.out(0), all);
        e.due("OUT at the last", x.out(1), -all);
        x.send(0, -9);
        x.send(1, 9);
        x.tick(1);
        e.due("less again", x.out(0), all - 9);
        e.due("less again", x.out(1), 9 - all);
        x.tick(400);
        e.due("nothing more", x.out(0), all - 9);
    }

    private void goes() {
        e.says("27", "Of a CELL, what 0: what goes to the right, 1: to the left, 2: LETS, 3: BACK; RANGE (-2000000000)");
        for (int n : new int[] {2, 3, 40}) {
            TinString x = new TinString();
            x.stretch(n);
            x.cell(0, 30, 20);
            x.cell(n - 1, 40, 10);
            x.send(0, 5);
            x.send(1, -6);
            int[][] due = {{5, 0, 30, 20}, {0, -6, 40, 10}};
            for (int what = 0; what < 4; what++) {
                e.due("the first, what " + what, x.goes(0, what), due[0][what]);
                e.due("the last, what " + what, x.goes(n - 1, what), due[1][what]);
                for (int i : new int[] {-1, n, Edges.MOST, Edges.LEAST}) {
                    e.due("CELL " + i, x.goes(i, what), -2000000000);
                }
            }
            for (int what : new int[] {-1, 4, Edges.MOST, Edges.LEAST}) {
                e.due("what " + what, x.goes(0, what), -2000000000);
                e.due("what " + what, x.goes(n, what), -2000000000);
            }
        }
    }

    private void out() {
        e.says("28", "RANGE (-2000000000)");
        TinString x = new TinString();
        x.send(0, -2);
        x.tick(2);
        e.due("side 0", x.out(0), 0);
        e.due("side 1: a number below 0 as well", x.out(1), -2);
        for (int side : new int[] {-1, 2, Edges.MOST, Edges.LEAST}) {
            e.due("side " + side, x.out(side), -2000000000L);
        }
    }

    private void keepAndTake() {
        e.says("29", "A SLOT (0 .. 2) keeps the ROW with all of it: how many TICKS there were; RANGE");
        e.says("30", "The ROW becomes as a SLOT keeps it: how many TICKS there were; RANGE; STATE: it is empty");
        TinString x = new TinString();
        for (int slot : new int[] {-1, 3, Edges.MOST, Edges.LEAST}) {
            e.due("keep " + slot, x.keep(slot), Edges.RANGE);
            e.due("take " + slot, x.take(slot), Edges.RANGE);
        }
        for (int slot = 0; slot < 3; slot++) {
            e.due("empty", x.take(slot), Edges.STATE);
        }
        // Kept one by one: the others are empty as before.
        for (int slot = 0; slot < 3; slot++) {
            x.stretch(40 - slot);
            x.cell(39 - slot, slot, 50);
            x.send(0, 100 + slot);
            x.tick(slot);
            x.send(1, slot);
            e.due("keep", x.keep(slot), slot);
            for (int other = slot + 1; other < 3; other++) {
                e.due("still empty", x.take(other), Edges.STATE);
                e.due("and the ROW as it was", x.count(4), 40 - slot);
            }
        }
        x.stretch(2);
        for (int slot = 2; slot >= 0; slot--) {
            e.due("take", x.take(slot), slot);
            e.due("CELLS", x.count(4), 40 - slot);
            e.due("TICKS", x.count(5), slot);
            e.due("LETS of the last", x.goes(39 - slot, 2), slot);
            e.due("BACK of the last", x.goes(39 - slot, 3), 50);
            e.due("to the left in the last", x.goes(39 - slot, 1), slot);
            e.due("to the right", x.goes(slot, 0), 100 + slot);
            e.due("behind the last", x.goes(40 - slot, 0), Edges.OFF);
        }
        for (int slot : new int[] {-1, 3}) {
            e.due("keep " + slot, x.keep(slot), Edges.RANGE);
            e.due("take " + slot, x.take(slot), Edges.RANGE);
        }
        e.due("the ROW as it was", x.count(4), 40);
    }

    private void slots() {
        e.says("29", "A SLOT (0 .. 2) keeps the ROW with all of it");
        TinString x = new TinString();
        x.cell(0, 0, 100);
        x.cell(1, 0, 100);
        x.send(0, 8);
        x.send(1, 9);
        x.tick(1);
        x.send(0, 1);
        x.keep(1);
        // What is done to the ROW is not done to the SLOT, and what is done to what was taken neither.
        for (int i = 0; i < 2; i++) {
            x.send(0, 5);
            x.cell(0, 1, 2);
            x.tick(3);
            x.stretch(7);
            e.due("take", x.take(1), 1);
            e.due("OUT", x.out(0), 8);
            e.due("OUT", x.out(1), 9);
            e.due("its pull", x.goes(0, 0), 1);
            e.due("LETS", x.goes(0, 2), 0);
            e.due("BACK", x.goes(0, 3), 100);
            e.due("CELLS", x.count(4), 2);
        }
        e.due("gone on from", x.tick(1), 2);
        e.due("OUT in all", x.out(0), 9);
        e.due("kept over", x.keep(1), 2);
        e.due("kept over", x.take(1), 2);
        e.due("OUT in all", x.out(0), 9);
        // A ROW of no pulls and no TICKS is no empty SLOT.
        TinString y = new TinString();
        e.due("keep", y.keep(0), 0);
        e.due("take", y.take(0), 0);
        e.due("the next one", y.take(1), Edges.STATE);
    }
}
