import java.util.ArrayList;
import java.util.List;

/** Boundary cases of the constants: which answer goes ahead of which; what is refused changes nothing; the 512th call. */
final class EdgesOrder {
    /** A call by itself. */
    private interface Call {
        long of(TinString x);
    }

    // No STUFF, no TIN, a WORD, a LOOP, two HOUSES that a POST parts.
    private static final String BARE = "word w 1 1 1 1;loop l 1 1 1 1 1;house a 0 0;house b 2 0;post 1 0;";
    private static final String RICH = "stuff s 50 9 0 5 100;stuff t 40 0 0 0 0;tin t 100 90 80 100;tin u 70 70 70 70;word a 0 3 9 1;word b 9 0 5 1;"
        + "word c 4 4 4 4;house a 0 0;house b 9 0;house c 9 9;post 5 5;loop l 5 5 4 3 2;loop m 9 9 9 9 9;wet 10;wind 3;noise 2;";

    private final Edges e;

    EdgesOrder(Edges e) {
        this.e = e;
    }

    void all() {
        constants();
        rangeAheadOfState();
        rangeAheadOfFull();
        aheadOfNone();
        refusedNew();
        refusedRich();
        refusedFull();
        askedOnly();
        readAndEmptied();
        faultLeavesAll();
        newStreet();
        earlierStreets();
        theLastCall();
    }

    private void constants() {
        e.says("constants", "`NONE = -1`: There is none.");
        e.due("NONE", TinString.NONE, -1);
        e.says("constants", "`RANGE = -2`: A number that can't be.");
        e.due("RANGE", TinString.RANGE, -2);
        e.says("constants", "`FULL = -3`: No room.");
        e.due("FULL", TinString.FULL, -3);
        e.says("constants", "`STATE = -4`: Not as things are.");
        e.due("STATE", TinString.STATE, -4);
        e.says("constants", "The constants:");
    }

    private static final String ORDER = "(Of several of RANGE, STATE, FULL, NONE a call tells the first in this order.)";

    private void rangeAheadOfState() {
        e.says("constants", ORDER);
        // Each call once as it is STATE alone, and once for each number that can't be.
        for (String lacks : new String[] {"", "stuff s 9 0 0 0 0;", "tin t 1 1 1 1;"}) {
            TinString x = Check.with(lacks + BARE);
            x.bend(-1);
            x.tie(1);
            String of = " of [" + lacks + "]";
            if (!lacks.startsWith("stuff")) {
                two("bears" + of, x.bears(0), x.bears(5), x.bears(-1));
            }
            two("through" + of, x.through(0, 0), x.through(10, 0), x.through(0, 4));
            two("share" + of, x.share(0, 0, 0), x.share(1, 0, 0), x.share(0, 10, 0), x.share(0, 0, 4));
            two("level" + of, x.level(0, 0), x.level(1, 0), x.level(0, 4));
            two("table" + of, x.table(0, 0), x.table(1, 0), x.table(0, 1));
            two("among" + of, x.among(1, 0, 0), x.among(2, 0, 0), x.among(1, 1, 0), x.among(1, 0, 1), x.among(0, 0, 0));
            two("longest" + of, x.longest(0, 1, 1), x.longest(1, 1, 1), x.longest(0, 65537, 1), x.longest(0, 1, 0));
            two("best" + of, x.best(0), x.best(2), x.best(-1));
            two("bestLoop" + of, x.bestLoop(0), x.bestLoop(1), x.bestLoop(-1));
            two("list" + of, x.list(1), x.list(0), x.list(2));
            two("said" + of, x.said(0, 0), x.said(1, 0), x.said(0, -1));
            two("fit" + of, x.fit(0, 0), x.fit(1000, 0), x.fit(0, 3), x.fit(-1, 2));
            two("take" + of, x.take(0), x.take(3), x.take(-1));
            // STATE ahead of NONE: there are no WORDS, no LOOPS, no LAW fits.
            TinString y = Check.with(lacks);
            y.bend(-1);
            two("best without WORDS" + of, y.best(0), y.best(2));
            two("best without WORDS" + of, y.best(1), y.best(-1));
            two("bestLoop without LOOPS" + of, y.bestLoop(0), y.bestLoop(1));
            two("fit without WORDS" + of, y.fit(0, 2), y.fit(1000, 2));
            TinString z = Check.with(lacks + "word w 1 1 1 1;word v 1 1 1 1;");
            z.write(0, 0, 1);
            two("fit of what never fits" + of, z.fit(0, 1), z.fit(0, 3));
            two("longest of what is never heard" + of, z.longest(1, 1, 1), z.longest(1, 1, 0));
        }
    }

    private void two(String call, long state, long... range) {
        e.due(call, state, Edges.STATE);
        for (long r : range) {
            e.due(call + " with a number that can't be", r, Edges.RANGE);
        }
    }

    private void rangeAheadOfFull() {
        e.says("constants", ORDER);
        TinString x = full();
        e.due("bend", x.bend(0), Edges.FULL);
        e.due("bend", x.bend(2), Edges.RANGE);
        e.due("bend", x.bend(-2), Edges.RANGE);
        e.due("tie", x.tie(0), Edges.FULL);
        e.due("tie", x.tie(101), Edges.RANGE);
        e.due("tie", x.tie(-1), Edges.RANGE);
        e.due("write", x.write(50, 0, 0), Edges.FULL);
        e.due("write", x.write(49, 0, 0), Edges.RANGE);
        e.due("write", x.write(1000, 0, 0), Edges.RANGE);
        e.due("write", x.write(50, 3, 0), Edges.RANGE);
        e.due("write", x.write(50, 0, 3), Edges.RANGE);
        e.due("right", x.right(50, 0, 0), Edges.FULL);
        e.due("right", x.right(49, 0, 0), Edges.RANGE);
        e.due("right", x.right(1000, 0, 0), Edges.RANGE);
        e.due("right", x.right(50, 20, 0), Edges.RANGE);
        e.due("right", x.right(50, 0, 3), Edges.RANGE);
    }

    private void aheadOfNone() {
        e.says("constants", ORDER);
        TinString x = Check.with("stuff s 9 0 0 0 0;tin t 1 1 1 1;" + BARE);
        e.due("yards that are barred", x.yards(0, 1), Edges.NONE);
        e.due("yards", x.yards(0, 0), Edges.RANGE);
        e.due("yards", x.yards(0, 2), Edges.RANGE);
        x.wish(0, 1);
        e.due("least that there isn't", x.least(4, 0), Edges.NONE);
        e.due("least", x.least(5, 0), Edges.RANGE);
        e.due("least", x.least(0, 1), Edges.RANGE);
        e.due("least", x.least(4, 2), Edges.RANGE);
        e.due("longest that there isn't", x.longest(0, 2, 1), Edges.NONE);
        e.due("longest", x.longest(1, 2, 1), Edges.RANGE);
        e.due("longest", x.longest(0, 65537, 1), Edges.RANGE);
        e.due("longest", x.longest(0, 2, 65537), Edges.RANGE);
        e.due("listened to no row", x.listened(0, 0, 0), Edges.NONE);
        e.due("listened", x.listened(-1, 0, 0), Edges.RANGE);
        x = Check.with("stuff s 9 0 0 0 0;tin t 1 1 1 1;");
        x.bend(-1);
        e.due("best without WORDS", x.best(0), Edges.NONE);
        e.due("best", x.best(2), Edges.RANGE);
        e.due("bestLoop without WORDS", x.bestLoop(0), Edges.NONE);
        e.due("bestLoop", x.bestLoop(1), Edges.RANGE);
        // With a WORD, or a LOOP, alone.
        x = Check.with("stuff s 9 0 0 0 0;tin t 1 1 1 1;word w 1 1 1 1;");
        x.bend(-1);
        e.due("best", x.best(0), 0);
        e.due("bestLoop without LOOPS", x.bestLoop(0), Edges.NONE);
        x = Check.with("stuff s 9 0 0 0 0;tin t 1 1 1 1;loop l 1 1 1 1 1;");
        x.bend(-1);
        e.due("best", x.best(1), Edges.NONE);
        e.due("bestLoop without WORDS", x.bestLoop(0), Edges.NONE);
    }

    // ---- states that are looked at before and behind a call

    private static TinString rich() {
        TinString x = Check.with(RICH);
        x.line(1, 0, 20, 15);
        x.bend(1);
        x.tie(20);
        x.wish(0, 1);
        x.wish(1, 2);
        x.write(3, 0, 0);
        x.write(5, 1, 2);
        x.right(6, 1, 1);
        richRow(x);
        Check.lay(x, "wet 9;wind 8;noise");
        return x;
    }

    private static void richRow(TinString x) {
        x.stretch(4);
        x.cell(1, 60, 30);
        x.cell(3, 0, 100);
        x.send(0, 500);
        x.send(1, -70);
        x.tick(2);
        x.keep(1);
        x.send(0, 33);
        x.tick(1);
    }

    /** As much of all as there may be; the latest STEP is 50. */
    private static TinString full() {
        TinString x = Check.with(RICH);
        x.line(0, 1, 400, 40);
        for (int i = 0; i < 4; i++) {
            x.bend(i % 2);
            x.tie(5 * i);
        }
        for (int i = 0; i < 20; i++) {
            x.write(i, i % 3, i % 2);
        }
        for (int i = 0; i < 20; i++) {
            x.right(31 + i, i % 7, i % 3);
        }
        x.wish(0, 1);
        x.wish(0, 2);
        x.wish(1, 2);
        x.stretch(40);
        x.send(0, 9999);
        x.tick(17);
        for (int slot = 0; slot < 3; slot++) {
            x.keep(slot);
        }
        Check.lay(x, " ".repeat(892) + "wet 9;!;");
        return x;
    }

    /** All that can be seen of it; at the end also by calls that change it. */
    private static List<Long> seen(TinString x) {
        List<Long> all = new ArrayList<>();
        for (int what = 0; what < 7; what++) {
            all.add((long) x.count(what));
            all.add((long) x.bears(Math.min(4, what)));
        }
        for (int what = 0; what <= 23; what++) {
            all.add((long) x.told(what));
        }
        all.add((long) x.fault(0));
        all.add((long) x.fault(1));
        for (int b = 0; b < 4; b++) {
            all.add((long) x.through(9, b));
            all.add((long) x.share(b, 9, b));
            for (int k = 0; k < 3; k++) {
                all.add((long) x.level(k, b));
                all.add((long) x.band(b, k, k));
            }
        }
        seenRow(x, all);
        for (int a = 0; a < 3; a++) {
            all.add((long) x.yards(a, (a + 1) % 3));
            all.add((long) x.table(a, (a + 1) % 3));
            all.add((long) x.least(a + 1, 1));
            all.add((long) x.fit(a * 40, 2));
            all.add((long) x.list(a + 1));
            all.add((long) x.said(a, 77));
            all.add((long) x.longest(a, 3, 4));
            all.add((long) x.best(a));
            all.add((long) x.bestLoop(a));
        }
        seenByChange(x, all);
        return all;
    }

    private static void seenRow(TinString x, List<Long> all) {
        for (int i = 0; i < 40 && i < x.count(4); i++) {
            all.add((long) x.goes(i, 0));
            all.add((long) x.goes(i, 1));
        }
        for (int what = 2; what < 4; what++) {
            for (int i = 0; i < 4; i++) {
                all.add((long) x.goes(i, what));
            }
        }
        all.add(x.out(0));
        all.add(x.out(1));
    }

    private static void seenByChange(TinString x, List<Long> all) {
        for (int step : new int[] {0, 2, 3, 4, 5, 6, 7, 30, 49, 50, 51}) {
            all.add((long) x.right(step, 0, 0));
        }
        all.add((long) x.write(51, 0, 0));
        all.add((long) x.bend(-1));
        all.add((long) x.tie(0));
        all.add((long) x.straighten());
        for (int slot = 0; slot < 3; slot++) {
            all.add((long) x.take(slot));
            all.add((long) x.count(4));
            all.add((long) x.goes(1, 0));
            all.add((long) x.goes(1, 2));
            all.add(x.out(1));
        }
        all.add((long) x.street());
        all.add((long) x.fault(0));
        all.add((long) x.fault(1));
        all.add((long) x.told(6));
    }

    private void alike(String call, TinString x, TinString y) {
        List<Long> got = seen(x);
        List<Long> due = seen(y);
        int at = 0;
        while (at < due.size() && at < got.size() && got.get(at).equals(due.get(at))) {
            at++;
        }
        e.must("what is seen behind " + call + " (answer " + at + " of it)", at == due.size() && at == got.size());
    }

    private static final String[] NAMES = {"end", "end", "line", "line", "line", "line", "bend", "bend", "tie", "tie", "stretch", "stretch", "cell",
        "cell", "cell", "cell", "send", "send", "send", "tick", "tick", "keep", "keep", "take", "take", "wish", "wish", "wish", "write", "write",
        "write", "write", "right", "right", "right", "right"};

    private static final Call[] REFUSED = {
        x -> x.end(901), x -> x.end(-1), x -> x.line(4, 0, 1, 1), x -> x.line(0, -1, 1, 1), x -> x.line(0, 0, 401, 1), x -> x.line(0, 0, 1, 100),
        x -> x.bend(4), x -> x.bend(-2), x -> x.tie(101), x -> x.tie(-1), x -> x.stretch(41), x -> x.stretch(1), x -> x.cell(40, 0, 0),
        x -> x.cell(-1, 0, 0), x -> x.cell(0, 51, 50), x -> x.cell(0, -1, 1), x -> x.send(2, 1), x -> x.send(0, 10000), x -> x.send(1, -10000),
        x -> x.tick(401), x -> x.tick(-1), x -> x.keep(3), x -> x.keep(-1), x -> x.take(3), x -> x.take(-1), x -> x.wish(0, 0), x -> x.wish(0, 5),
        x -> x.wish(-1, 0), x -> x.write(1000, 0, 0), x -> x.write(999, 6, 0), x -> x.write(999, 0, -1), x -> x.write(-1, 0, 0),
        x -> x.right(1000, 0, 0), x -> x.right(999, 20, 0), x -> x.right(999, 0, 6), x -> x.right(-1, 0, 0)};

    private void refusedNew() {
        e.says("constants", "A number that can't be.");
        for (int i = 0; i < REFUSED.length; i++) {
            TinString x = new TinString();
            e.due(NAMES[i], REFUSED[i].of(x), i < 2 ? Edges.NONE : Edges.RANGE);
            alike("a refused " + NAMES[i] + " of a new object", x, new TinString());
        }
        TinString x = new TinString();
        e.due("take", x.take(1), Edges.STATE);
        alike("take of an empty SLOT", x, new TinString());
    }

    private void refusedRich() {
        e.says("constants", "A number that can't be.");
        for (int i = 0; i < REFUSED.length; i++) {
            TinString x = rich();
            e.due(NAMES[i], REFUSED[i].of(x), i < 2 ? Edges.NONE : Edges.RANGE);
            alike("a refused " + NAMES[i], x, rich());
        }
        e.says("constants", "Not as things are.");
        TinString x = rich();
        e.due("take", x.take(2), Edges.STATE);
        alike("take of an empty SLOT", x, rich());
        // One beyond what there is just now.
        Call[] beyond = {y -> y.line(2, 0, 1, 1), y -> y.line(0, 2, 1, 1), y -> y.bend(2), y -> y.cell(4, 0, 0), y -> y.wish(0, 3),
            y -> y.write(6, 3, 0), y -> y.write(6, 0, 3), y -> y.write(5, 0, 0), y -> y.right(6, 2, 0), y -> y.right(6, 0, 3), y -> y.right(5, 0, 0)};
        for (Call call : beyond) {
            x = rich();
            e.due("one beyond", call.of(x), Edges.RANGE);
            alike("one beyond", x, rich());
        }
    }

    private void refusedFull() {
        e.says("constants", "No room.");
        Call[] calls = {x -> x.feed(0x77657420, 0x37373737, 1, 2, 3), x -> x.bend(0), x -> x.bend(-1), x -> x.tie(1), x -> x.write(50, 0, 0),
            x -> x.write(999, 0, 0), x -> x.right(50, 0, 0), x -> x.right(999, 19, 2)};
        for (Call call : calls) {
            TinString x = full();
            e.due("a call for which there is no room", call.of(x), Edges.FULL);
            alike("a call for which there is no room", x, full());
        }
        for (int i = 0; i < REFUSED.length; i++) {
            TinString x = full();
            e.due(NAMES[i], REFUSED[i].of(x), i < 2 ? Edges.NONE : Edges.RANGE);
            alike("a refused " + NAMES[i], x, full());
        }
    }

    /** Calls that only ask, with what can be and what can't: they change the LINE for a while at most. */
    private void askedOnly() {
        e.says("constants", "There is none.");
        Call[] calls = {x -> x.fault(2), x -> x.told(99), x -> x.band(9, 9, 9), x -> x.bears(1), x -> x.bears(5), x -> x.through(9, 3), x -> x.through(10, 4),
            x -> x.share(0, 9, 0), x -> x.share(9, 9, 9), x -> x.level(2, 3), x -> x.level(3, 0), x -> x.table(2, 1), x -> x.table(0, 3),
            x -> x.among(6, 1, 2), x -> x.among(8, 3, 3), x -> x.longest(0, 1, 2), x -> x.longest(1, 2, 1), x -> x.longest(3, 1, 1), x -> x.best(0),
            x -> x.best(1), x -> x.best(2), x -> x.bestLoop(0), x -> x.bestLoop(4), x -> x.list(2), x -> x.list(4), x -> x.said(1, 77), x -> x.said(1, -1),
            x -> x.tick(0), x -> x.goes(0, 0), x -> x.goes(40, 4), x -> x.out(0), x -> x.out(2), x -> x.yards(0, 1), x -> x.yards(1, 1),
            x -> x.least(4, 0), x -> x.least(5, 0), x -> x.tapRow(99, 2), x -> x.tapRow(100, 0), x -> x.fit(999, 2), x -> x.fit(1000, 0),
            x -> x.count(6), x -> x.count(7)};
        for (int i = 0; i < calls.length; i++) {
            TinString x = rich();
            calls[i].of(x);
            alike("call " + i + " that asks", x, rich());
            x = full();
            calls[i].of(x);
            alike("call " + i + " that asks", x, full());
        }
    }

    private void readAndEmptied() {
        e.says("I", "each call that reads it empties it, whatever it tells");
        Call[] calls = {x -> x.taps(), x -> x.listened(1, 1, 1), x -> x.listened(-1, 0, 0), x -> x.listened(0, 100000, 0)};
        long[] due = {Edges.NONE, Edges.NONE, Edges.RANGE, Edges.RANGE};
        for (int i = 0; i < calls.length; i++) {
            TinString x = rich();
            TinString y = rich();
            e.due("call " + i + " that reads", calls[i].of(x), due[i]);
            y.end(0);
            alike("call " + i + " that reads", x, y);
        }
    }

    private void faultLeavesAll() {
        e.says("4", "NONE with a FAULT (it stays)");
        String[] texts = {"stuff z 1 1 1 1 1;tin z 1 1 1 1;wet 7;wind 7;noise 7;", "house z 1 1;post 1 1;loop z 1 1 1 1 1;word z 1 1 1 1;!", RICH + "wet"};
        int[] kinds = {2, 1, 3};
        for (int i = 0; i < texts.length; i++) {
            TinString x = rich();
            TinString y = rich();
            e.due("street", Check.street(x, texts[i]), Edges.NONE);
            e.due("KIND", x.fault(0), kinds[i]);
            // The other one has the same FAULT from one WORD alone.
            y.end(0);
            Check.street(y, texts[i]);
            alike("a FAULT", x, y);
            TinString z = rich();
            z.end(0);
            List<Long> before = seen(z);
            x = rich();
            Check.street(x, texts[i]);
            List<Long> behind = seen(x);
            for (int k = 0; k < before.size(); k++) {
                // 7 counts and what it BEARS by turns, 24 told; then the FAULT itself.
                if (k != 38 && k != 39) {
                    e.due("seen behind a FAULT, answer " + k, behind.get(k), before.get(k));
                }
            }
        }
    }

    private void newStreet() {
        e.says("4", "Without one the LINE is as at first then, WRITTEN, WISHES none, the latest STEP 0. (The ROW stays.)");
        for (String text : new String[] {"", RICH, BARE, "noise 3;"}) {
            TinString x = rich();
            e.must("street", Check.street(x, text) >= 0);
            // A new object to which nothing but the ROW has been.
            TinString y = new TinString();
            richRow(y);
            Check.street(y, text);
            alike("a new street", x, y);
        }
    }

    /** What streets before the last one have told is gone, for good: the latest tells less of each kind, or nothing. */
    private void earlierStreets() {
        e.says("4", "THE TAPE is a STREET");
        String much = Edges.many("stuff # 9 % 0 0 0;", 3) + "stuff z 9 0 0 0 0;" + Edges.many("tin # 9% 90 90 90;", 3) + "tin z 100 100 100 100;"
            + Edges.many("word # % 9 5 1;", 6) + Edges.many("house # % %;", 5) + Edges.many("post 9% 0;", 4) + Edges.many("loop # 9 % 9 9 9;", 3)
            + "loop z 9 9 9 9 9;wet 1;wind 1;noise 2;";
        String little = "stuff a 9 400 400 400 400;tin t 90 90 90 90;word a 0 0 0 0;word b 9 1 1 1;house a 0 0;house b 3 4;loop l 1 9 1 9 1;";
        String dull = "stuff a 9 9 9 9 9;tin t 9 9 9 9;word a 0 0 0 0;word b 9 1 1 1;";
        for (String text : new String[] {"", little, dull, "word a 1 1 1 1;", "stuff a 9 9 9 9 9;", "house h 1 1;", "post 1 1;", "loop a 1 1 1 1 1;", BARE}) {
            for (int streets = 1; streets <= 4; streets++) {
                TinString x = new TinString();
                for (int i = 0; i < streets; i++) {
                    e.due("much", Check.street(x, much), 30);
                }
                TinString y = new TinString();
                for (TinString z : new TinString[] {x, y}) {
                    e.must("less", Check.street(z, text) >= 0);
                    z.line(0, 0, 2, 9);
                    z.bend(0);
                    z.write(0, 1, 1);
                    z.wish(0, 1);
                }
                alike("a street behind " + streets + " others", x, y);
            }
        }
    }

    private void theLastCall() {
        e.says("use", "An object is used for at most 512 calls after it has been made; what later calls answer is free.");
        TinString x = new TinString();
        for (int i = 1; i <= 511; i++) {
            e.due("send", x.send(1, 9), 9 * i);
        }
        e.due("the 512th", x.send(1, -9), 9 * 510);
        // The dearest, as often as there are calls left: lay() takes three calls, and one for each 20 bytes.
        x = new TinString();
        int bytes = Check.lay(x, "stuff a 9 9 9 9 9;stuff b 9 19 9 9 9;stuff c 9 9 29 9 9;stuff d 9 9 9 9 39;tin t 100 100 100 100;noise 3;"
            + "word a 9 1 1 1;word b 1 9 1 1;word c 1 1 9 1;word d 1 1 1 9;word e 9 9 9 9;word f 5 5 5 5;");
        e.due("street", x.street(), 12);
        x.line(0, 0, 1, 9);
        for (int w = 0; w < 6; w++) {
            x.write(0, w, w);
        }
        int calls = 3 + (bytes + 19) / 20 + 2 + 6 + 1;
        int first = x.fit(0, 2);
        for (; calls < 512; calls++) {
            e.due("call " + calls, x.fit(0, 2), first);
        }
    }
}
