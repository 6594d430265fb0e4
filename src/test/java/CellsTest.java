/** Promises 23 to 30: the ROW of CELLS. */
public final class CellsTest {
    private static final Check c = new Check();

    private static void promise23() {
        TinString x = new TinString();
        c.due("too few", x.stretch(1), TinString.RANGE);
        c.due("too many", x.stretch(41), TinString.RANGE);
        c.due("below", x.stretch(-3), TinString.RANGE);
        c.due("refused: still 2", x.count(4), 2);
        x.cell(0, 0, 50);
        x.send(0, 100);
        x.tick(1);
        c.due("came out", x.out(0), 50);
        c.due("40", x.stretch(40), 40);
        c.due("cells", x.count(4), 40);
        c.due("no ticks", x.count(5), 0);
        c.due("nothing out", x.out(0), 0);
        c.due("nothing out", x.out(1), 0);
        for (int i = 0; i < 40; i++) {
            c.due("right", x.goes(i, 0), 0);
            c.due("left", x.goes(i, 1), 0);
            c.due("lets", x.goes(i, 2), 100);
            c.due("back", x.goes(i, 3), 0);
        }
        x.send(0, 9);
        x.send(1, 8);
        c.due("2", x.stretch(2), 2);
        c.due("right", x.goes(0, 0), 0);
        c.due("left", x.goes(1, 1), 0);
        c.due("40 again", x.stretch(40), 40);
        c.due("left", x.goes(39, 1), 0);
    }

    private static void promise24() {
        TinString x = new TinString();
        c.due("cell", x.cell(1, 0, 0), 1);
        c.due("lets", x.goes(1, 2), 0);
        c.due("cell", x.cell(1, 70, 30), 1);
        c.due("cell", x.cell(0, 100, 0), 1);
        c.due("lets", x.goes(0, 2), 100);
        c.due("cell", x.cell(0, 0, 100), 1);
        int[][] wrong = {{2, 0, 0}, {-1, 0, 0}, {1, 71, 30}, {1, -1, 50}, {1, 50, -1}, {1, 101, 0}, {1, 0, 101},
            {1, 101, -1}, {1, Integer.MAX_VALUE, 1}, {1, Integer.MIN_VALUE, 1}, {1, 1, Integer.MIN_VALUE}};
        for (int[] w : wrong) {
            c.due("RANGE", x.cell(w[0], w[1], w[2]), TinString.RANGE);
        }
        c.due("lets", x.goes(1, 2), 70);
        c.due("back", x.goes(1, 3), 30);
        c.due("lets", x.goes(0, 2), 0);
        c.due("back", x.goes(0, 3), 100);
    }

    private static void promise25() {
        TinString x = new TinString();
        x.stretch(3);
        c.due("send", x.send(0, 9999), 9999);
        c.due("send", x.send(0, -1), 9998);
        c.due("send", x.send(1, -9999), -9999);
        c.due("send", x.send(1, 4), -9995);
        c.due("first to the right", x.goes(0, 0), 9998);
        c.due("last to the left", x.goes(2, 1), -9995);
        c.due("nothing else", x.goes(0, 1), 0);
        c.due("nothing else", x.goes(2, 0), 0);
        int[][] wrong = {{0, 10000}, {0, -10000}, {2, 0}, {-1, 0}, {1, Integer.MAX_VALUE}, {1, Integer.MIN_VALUE}};
        for (int[] w : wrong) {
            c.due("RANGE", x.send(w[0], w[1]), TinString.RANGE);
        }
        x.stretch(2);
        for (int i = 1; i <= 100; i++) {
            c.due("up", x.send(0, 9999), 9999 * i);
            c.due("down", x.send(1, -9999), -9999 * i);
        }
        c.due("cut", x.send(0, 9999), 999999);
        c.due("cut", x.send(1, -9999), -999999);
        c.due("less again", x.send(0, -1), 999998);
        c.due("less again", x.send(1, 1), -999998);
    }

    private static void promises26to28() {
        TinString x = new TinString();
        x.stretch(3);
        c.due("none", x.tick(0), 0);
        c.due("RANGE", x.tick(-1), TinString.RANGE);
        c.due("RANGE", x.tick(401), TinString.RANGE);
        x.cell(0, 60, 40);
        x.cell(1, 33, 33);
        x.cell(2, 50, 50);
        x.send(0, 101);
        x.send(1, -101);
        c.due("one", x.tick(1), 1);
        // 60 to the right of 1, 40 (40.4) out at the first; -50 (-50.5) to the left of 1, -50 out at the last
        c.due("1 right", x.goes(1, 0), 60);
        c.due("1 left", x.goes(1, 1), -50);
        c.due("0 right", x.goes(0, 0), 0);
        c.due("2 left", x.goes(2, 1), 0);
        c.due("out first", x.out(0), 40);
        c.due("out last", x.out(1), -50);
        c.due("two", x.tick(1), 2);
        // 60: 19 (19.8) on and 19 back; -50: -16 (-16.5) on and -16 back; each cut by itself
        c.due("2 right", x.goes(2, 0), 19 - 16);
        c.due("0 left", x.goes(0, 1), 19 - 16);
        c.due("1 right", x.goes(1, 0), 0);
        c.due("1 left", x.goes(1, 1), 0);
        c.due("three", x.tick(1), 3);
        // of 3: 1 (1.8) on to the left out, 1 (1.2) back to the right of 1; 1 (1.5) out at the last, 1 back to the left of 1
        c.due("out first", x.out(0), 41);
        c.due("out last", x.out(1), -49);
        c.due("1 right", x.goes(1, 0), 1);
        c.due("1 left", x.goes(1, 1), 1);
        c.due("all ticks", x.tick(400), 403);
        c.due("gone", x.goes(1, 0), 0);
        c.due("ticks", x.count(5), 403);
        // both ways through a row of 40, all let
        x.stretch(40);
        x.send(0, 7);
        x.send(1, 9);
        c.due("39", x.tick(39), 39);
        c.due("at the last", x.goes(39, 0), 7);
        c.due("at the first", x.goes(0, 1), 9);
        c.due("not out", x.out(1), 0);
        x.tick(1);
        c.due("out", x.out(1), 7);
        c.due("out", x.out(0), 9);
        // to and fro: a pull between two walls never ends, and never grows above what it may be
        x.stretch(2);
        x.cell(0, 0, 100);
        x.cell(1, 0, 100);
        for (int i = 0; i < 101; i++) {
            x.send(0, 9999);
        }
        x.tick(1);
        c.due("out by the first wall", x.out(0), 999999);
        for (int i = 0; i < 101; i++) {
            x.send(1, -9999);
        }
        x.tick(1);
        c.due("out by the last wall", x.out(1), -999999);
        // what comes OUT is not cut
        for (int i = 0; i < 101; i++) {
            x.send(0, 9999);
        }
        x.tick(1);
        c.due("all out", x.out(0), 1999998);
        // between CELLS 1 and 2 a pull goes to and fro: from 1 to the left it is thrown back to the right into 2, and so on
        x.stretch(4);
        x.cell(2, 0, 100);
        x.cell(1, 0, 100);
        x.send(0, 50);
        x.tick(1);
        c.due("into 1", x.goes(1, 0), 50);
        x.tick(1);
        c.due("back to 0", x.goes(0, 1), 50);
        for (int what : new int[] {-1, 4, 100}) {
            c.due("RANGE", x.goes(0, what), -2000000000);
        }
        for (int what = 0; what < 4; what++) {
            c.due("RANGE", x.goes(4, what), -2000000000);
            c.due("RANGE", x.goes(-1, what), -2000000000);
        }
        c.due("RANGE", x.out(2), -2000000000);
        c.due("RANGE", x.out(-1), -2000000000);
    }

    private static void promises29and30() {
        TinString x = new TinString();
        for (int slot = 0; slot < 3; slot++) {
            c.due("empty", x.take(slot), TinString.STATE);
        }
        for (int slot : new int[] {-1, 3, Integer.MAX_VALUE}) {
            c.due("RANGE", x.take(slot), TinString.RANGE);
            c.due("RANGE", x.keep(slot), TinString.RANGE);
        }
        x.stretch(3);
        x.cell(0, 20, 30);
        x.cell(2, 40, 10);
        x.send(0, 100);
        x.send(1, -100);
        x.tick(1);
        x.send(0, 5);
        x.send(1, 6);
        c.due("keep", x.keep(2), 1);
        x.tick(7);
        x.cell(1, 1, 1);
        c.due("keep", x.keep(0), 8);
        x.stretch(30);
        c.due("take", x.take(2), 1);
        c.due("cells", x.count(4), 3);
        c.due("ticks", x.count(5), 1);
        int[][] want = {{5, 0, 20, 30}, {20, -40, 100, 0}, {0, 6, 40, 10}};
        for (int i = 0; i < 3; i++) {
            for (int what = 0; what < 4; what++) {
                c.due("cell " + i + " " + what, x.goes(i, what), want[i][what]);
            }
        }
        c.due("out", x.out(0), 30);
        c.due("out", x.out(1), -10);
        // gone on from, the slot stays as it was
        x.tick(3);
        x.send(0, 50);
        x.cell(0, 0, 0);
        c.due("take again", x.take(2), 1);
        c.due("as kept", x.goes(0, 0), 5);
        c.due("as kept", x.goes(0, 2), 20);
        c.due("the other", x.take(0), 8);
        c.due("as kept", x.goes(1, 2), 1);
        c.due("still empty", x.take(1), TinString.STATE);
        c.due("kept over", x.keep(2), 8);
        c.due("kept over", x.take(2), 8);
    }

    public static void main(String[] args) {
        promise23();
        promise24();
        promise25();
        promises26to28();
        promises29and30();
        c.end();
    }
}
