/** Promises 1 to 7: a new object, THE TAPE, the STREET and what is told of it. */
public final class StreetTest {
    private static final Check c = new Check();

    private static void fault(String text, int kind, int place) {
        TinString x = new TinString();
        c.due("street of [" + text + "]", Check.street(x, text), TinString.NONE);
        c.due("fault(0) of [" + text + "]", x.fault(0), kind);
        c.due("fault(1) of [" + text + "]", x.fault(1), place);
        c.due("THE TAPE behind [" + text + "]", x.count(6), 0);
    }

    private static void good(String text, int clauses) {
        TinString x = new TinString();
        c.due("street of [" + text + "]", Check.street(x, text), clauses);
        c.due("fault(0) of [" + text + "]", x.fault(0), 0);
        c.due("fault(1) of [" + text + "]", x.fault(1), TinString.NONE);
        c.due("count(0) of [" + text + "]", x.count(0), clauses);
    }

    private static void promise1() {
        TinString x = new TinString();
        for (int what = 0; what <= 7; what++) {
            c.due("new told " + what, x.told(what), 0);
        }
        c.due("new noise", x.told(8), 1);
        c.due("new fault(0)", x.fault(0), 0);
        c.due("new fault(1)", x.fault(1), TinString.NONE);
        int[] counts = {0, 0, 0, 0, 2, 0, 0};
        for (int what = 0; what < counts.length; what++) {
            c.due("new count " + what, x.count(what), counts[what]);
        }
        c.due("new straighten", x.straighten(), 0);
        for (int i = 0; i < 2; i++) {
            c.due("new right", x.goes(i, 0), 0);
            c.due("new left", x.goes(i, 1), 0);
            c.due("new lets", x.goes(i, 2), 100);
            c.due("new back", x.goes(i, 3), 0);
        }
        c.due("new end", x.end(1), TinString.NONE);
        // STUFF 0, TIN 0, 10 YARDS, PULL 0 as soon as there are such: PULL 0 lets nothing by.
        x = Check.with("stuff a 10 0 0 0 0;tin t 100 100 100 100;");
        c.due("slack at first", x.bears(1), 0);
        c.due("not snapped at first", x.bears(2), 0);
        c.due("no bends at first", x.bears(3), 0);
        c.due("no ties at first", x.bears(4), 0);
    }

    private static void promise2() {
        TinString x = new TinString();
        for (int i = 1; i <= 45; i++) {
            c.due("feed " + i, x.feed(0x20202020, 0x20202020, 0x20202020, 0x20202020, 0x20202020), 20 * i);
        }
        c.due("feed full", x.feed(1, 1, 1, 1, 1), TinString.FULL);
        c.due("still 900", x.count(6), 900);
        c.due("end 881", x.end(881), 881);
        c.due("feed full by one byte", x.feed(1, 1, 1, 1, 1), TinString.FULL);
        c.due("end 880", x.end(880), 880);
        c.due("feed to the brim", x.feed(0x20202020, 0x20202020, 0x20202020, 0x20202020, 0x20202020), 900);
        c.due("900 blanks are a street", x.street(), 0);
        // The highest byte of each int first: "wet 9;".
        c.due("feed", x.feed(0x77657420, 0x393b2020, 0x20202020, 0x20202020, 0x77696e64), 20);
        c.due("feed", x.feed(0x2037203b, 0xffffffff, 0, 0, 0), 40);
        c.due("end", x.end(24), 24);
        c.due("street", x.street(), 2);
        c.due("wet", x.told(6), 9);
        c.due("wind", x.told(7), 7);
        // A byte of 128 or more is none of a TOKEN.
        x.feed(0x80ffe9ff, 0x20202020, 0x20202020, 0x20202020, 0x20202020);
        c.due("street", x.street(), TinString.NONE);
        c.due("place", x.fault(1), 0);
    }

    private static void promise3() {
        TinString x = new TinString();
        c.due("end 0", x.end(0), 0);
        c.due("end 1 of 0", x.end(1), TinString.NONE);
        Check.lay(x, "wet 12;wet 3;");
        c.due("end below 0", x.end(-1), TinString.NONE);
        c.due("end least", x.end(Integer.MIN_VALUE), TinString.NONE);
        c.due("end most", x.end(Integer.MAX_VALUE), TinString.NONE);
        c.due("end beyond", x.end(14), TinString.NONE);
        c.due("unchanged", x.count(6), 13);
        c.due("end 13", x.end(13), 13);
        c.due("end 7", x.end(7), 7);
        c.due("end 8 is gone", x.end(8), TinString.NONE);
        c.due("street", x.street(), 1);
        c.due("told", x.told(6), 12);
    }

    private static void texts() {
        good("", 0);
        good(" \n ", 0);
        good("wet0;", 1);
        good("stuff stuff 1 0 0 0 0;tin stuff 0 0 0 0;word stuff 0 0 0 0;house stuff 0 0;loop stuff 1 0 0 0 0;", 5);
        good("stuff\nabcdefgh\n\n99 999 0999 999 999 ; ", 1);
        good("house a 0099 99;house b 99 98;post 99 99;post 98 99;", 4);
        good("house a1 2;tin b1 2 3 4;", 2);
        good("wet 90;wind 50;noise 3;", 3);
        good("noise 0;", 1);
        for (char a = 'a'; a <= 'z'; a++) {
            String s = "" + a;
            good("tin " + s + " 0 0 0 0;tin " + s + s + " 0 0 0 0;tin " + s.repeat(7) + " 0 0 0 0;tin " + s.repeat(8) + " 0 0 0 0;", 4);
            fault("tin " + s.repeat(8) + " 0 0 0 0;tin " + s.repeat(8), 3, 25);
        }
        good("tin ab 0 0 0 0;tin ba 0 0 0 0;tin b 0 0 0 0;tin aab 0 0 0 0;", 4);
        // One letter of a first WORD is another one, or one is more or less.
        for (String first : new String[] {"stuff", "tin", "word", "house", "post", "loop", "wet", "wind", "noise"}) {
            for (int i = 0; i < first.length(); i++) {
                String ahead = first.substring(0, i);
                String behind = first.substring(i + 1);
                fault(ahead + "x" + behind + " 1;", 1, 0);
                fault(ahead + behind + " 1;", 1, 0);
                fault(ahead + "x" + first.charAt(i) + behind + " 1;", 1, 0);
            }
            fault(first + "s 1;", 1, 0);
        }
        good("word a 9 9 9 9;word b 0 0 0 0;word c 0 0 0 0;word d 0 0 0 0;word e 0 0 0 0;word f 0 0 0 0;", 6);
        good("house a 0 0;house b 0 1;house c 0 2;house d 0 3;house e 0 4;"
            + "post 0 0;post 0 1;post 0 2;post 0 3;", 9);
        // SYNTAX
        fault(";", 1, 0);
        fault(" ;", 1, 1);
        fault("7", 1, 0);
        fault("Wet 1;", 1, 0);
        fault("wets 1;", 1, 0);
        fault("we 1;", 1, 0);
        fault("wet", 1, 3);
        fault("wet  ", 1, 5);
        fault("wet 1", 1, 5);
        fault("wet 1 ", 1, 6);
        fault("wet a;", 1, 4);
        fault("wet 1 1;", 1, 6);
        fault("wet 1;;", 1, 6);
        fault("wet 00001;", 1, 4);
        fault("wet 12345;", 1, 4);
        fault("wet 99999999999999999999;", 1, 4);
        fault("wet -1;", 1, 4);
        fault("wet\t1;", 1, 3);
        fault("stuff 1 1 1 1 1;", 1, 6);
        fault("stuff abcdefghi 1 1 1 1 1;", 1, 6);
        fault("stuff aB 1 1 1 1 1;", 1, 7);
        fault("stuffing 1;", 1, 0);
        fault("noisenoise 1;", 1, 0);
        fault("tin a 1 2 3;", 1, 11);
        fault("tin a 1 2 3 4 5;", 1, 14);
        fault("post a 1 1;", 1, 5);
        fault("house a 1;", 1, 9);
        fault("house a;", 1, 7);
        fault("house", 1, 5);
        fault("wet 1,", 1, 5);
        // RANGE
        fault("stuff a 0 1 1 1 1;", 2, 8);
        fault("stuff a 100 1 1 1 1;", 2, 8);
        fault("stuff a 1 1000 1 1 1;", 2, 10);
        fault("stuff a 1 1 1 1 1000;", 2, 16);
        fault("tin a 101 0 0 0;", 2, 6);
        fault("tin a 0 0 0 101;", 2, 12);
        fault("word a 10 0 0 0;", 2, 7);
        fault("house a 100 0;", 2, 8);
        fault("house a 0 100;", 2, 10);
        fault("post 100 0;", 2, 5);
        fault("post 0 100;", 2, 7);
        fault("loop a 0 0 0 0 0;", 2, 7);
        fault("loop a 10 0 0 0 0;", 2, 7);
        fault("loop a 1 0 0 0 10;", 2, 15);
        fault("wet 91;", 2, 4);
        fault("wind 51;", 2, 5);
        fault("noise 4;", 2, 6);
        // TWICE
        fault("wet 1;wet", 3, 6);
        fault("wind 0;wet 0;wind 0;", 3, 13);
        fault("noise 1; noise x", 3, 9);
        fault("stuff a 1 0 0 0 0;stuff a 0;", 3, 24);
        fault("tin a 0 0 0 0;tin a", 3, 18);
        fault("word ab 0 0 0 0;word b 0 0 0 0;word ab", 3, 36);
        fault("house a 1 2;house a 3 4;", 3, 18);
        fault("loop a 1 0 0 0 0;loop a 1 0 0 0 0;", 3, 22);
        fault("house a 1 2;house b 2 1;house c 1 2;", 3, 34);
        fault("post 1 2;post 1 2;", 3, 16);
        // ROOM, at the first WORD of the one too many, whatever comes behind
        fault("stuff a 1 0 0 0 0;stuff b 1 0 0 0 0;stuff c 1 0 0 0 0;stuff d 1 0 0 0 0;stuff a", 4, 72);
        fault("word a 0 0 0 0;word b 0 0 0 0;word c 0 0 0 0;word d 0 0 0 0;word e 0 0 0 0;word f 0 0 0 0;word", 4, 90);
        fault("house a 0 0;house b 0 1;house c 0 2;house d 0 3;house e 0 4;house f 0 5;", 4, 60);
        fault("post 0 0;post 0 1;post 0 2;post 0 3;post 0 0;", 4, 36);
        fault("loop a 1 0 0 0 0;loop b 1 0 0 0 0;loop c 1 0 0 0 0;loop d 1 0 0 0 0;loop ;", 4, 68);
        fault("tin a 0 0 0 0;tin b 0 0 0 0;tin c 0 0 0 0;tin d 0 0 0 0;tin e 0 0 0 0;", 4, 56);
    }

    private static void promises4and5() {
        String first = "stuff a 50 1 2 3 4;tin t 100 90 80 70;word w 1 2 3 4;house h 1 2;house i 5 6;post 9 9;"
            + "loop l 3 1 2 3 4;wet 10;wind 5;noise 2;";
        TinString x = Check.with(first);
        c.due("line", x.line(0, 0, 33, 20), 1);
        c.due("bend", x.bend(0), 1);
        c.due("tie", x.tie(10), 1);
        c.due("write", x.write(7, 0, 0), 0);
        c.due("right", x.right(8, 0, 0), 1);
        c.due("wish", x.wish(0, 1), 1);
        c.due("stretch", x.stretch(5), 5);
        c.due("send", x.send(0, 77), 77);
        c.due("tick", x.tick(2), 2);
        c.due("keep", x.keep(1), 2);
        // With a FAULT all of it stays.
        c.due("fault", Check.street(x, "wet 20;wind 3;noise 9;"), TinString.NONE);
        c.due("kind", x.fault(0), 2);
        c.due("place", x.fault(1), 20);
        c.due("no such fault", x.fault(2), TinString.NONE);
        c.due("no such fault", x.fault(-1), TinString.NONE);
        int[] told = {1, 1, 1, 2, 1, 1, 10, 5, 2};
        for (int what = 0; what < told.length; what++) {
            c.due("told stays " + what, x.told(what), told[what]);
        }
        int[] counts = {10, 1, 1, 1, 5, 2, 0};
        for (int what = 0; what < counts.length; what++) {
            c.due("count stays " + what, x.count(what), counts[what]);
        }
        c.due("pull stays", x.bears(1), 100);
        c.due("bends stay", x.bears(3), 1);
        c.due("ties stay", x.bears(4), 1);
        c.due("the step stays", x.write(7, 0, 0), TinString.RANGE);
        c.due("the band stays", x.band(0, 0, 3), 4);
        // Without one all but the ROW is as at first.
        c.due("street", Check.street(x, "stuff b 60 1 1 1 1;stuff c 1 2 2 2 2;tin u 50 50 50 50;word v 5 5 5 5;"), 4);
        c.due("kind", x.fault(0), 0);
        c.due("place", x.fault(1), TinString.NONE);
        int[] anew = {2, 1, 1, 0, 0, 0, 0, 0, 1};
        for (int what = 0; what < anew.length; what++) {
            c.due("told anew " + what, x.told(what), anew[what]);
        }
        int[] after = {4, 0, 0, 0, 5, 2, 0};
        for (int what = 0; what < after.length; what++) {
            c.due("count anew " + what, x.count(what), after[what]);
        }
        c.due("pull anew", x.bears(1), 0);
        c.due("bends anew", x.bears(3), 0);
        c.due("ties anew", x.bears(4), 0);
        c.due("cell stays", x.goes(2, 0), 77);
        c.due("slot stays", x.take(1), 2);
        c.due("step anew", x.write(0, 0, 0), 0);
        // 10 YARDS and STUFF 0, TIN 0 again: with a pull of the same line.
        c.due("line", x.line(1, 0, 44, 1), 1);
        c.due("bears of stuff 1", x.bears(0), 1);
        c.due("again", Check.street(x, "stuff b 60 1 1 1 1;stuff c 1 2 2 2 2;tin u 50 50 50 50;"), 3);
        c.due("bears of stuff 0", x.bears(0), 60);
        // An empty text tells nothing, and takes all away.
        c.due("empty", Check.street(x, ""), 0);
        c.due("no stuff", x.told(0), 0);
        c.due("noise 1", x.told(8), 1);
        c.due("bears", x.bears(0), TinString.STATE);
    }

    private static void again() {
        TinString x = new TinString();
        String text = "stuff a 50 1 2 3 4;tin t 100 90 80 70;word w 1 2 3 4;house h 1 2;post 9 9;loop l 3 1 2 3 4;wet 1;wind 1;noise 2;";
        for (int i = 0; i < 5; i++) {
            c.due("the same text again", Check.street(x, text), 9);
            c.due("the same text cut off", Check.street(x, text + "tin u 0 0 0 0"), TinString.NONE);
        }
        // What an earlier text told of wet, wind and noise isn't told by this one.
        for (int i = 0; i < 3; i++) {
            c.due("without", Check.street(x, "stuff a 50 1 2 3 4;"), 1);
            c.due("wet", x.told(6), 0);
            c.due("wind", x.told(7), 0);
            c.due("noise", x.told(8), 1);
        }
    }

    private static void promises6and7() {
        TinString x = Check.with("stuff a 11 1 2 3 4;stuff b 12 5 6 7 8;stuff c 13 9 10 11 12;stuff d 14 13 14 15 999;"
            + "tin t 100 90 80 70;tin u 0 1 2 3;word w 1 2 3 4;word v 9 8 7 6;"
            + "loop l 9 1 2 3 4;loop m 8 0 9 8 7;noise 0;house a 1 2;house b 3 4;post 1 2;post 3 4;");
        for (int s = 0; s < 4; s++) {
            c.due("snap", x.told(10 + s), 11 + s);
        }
        c.due("no snap", x.told(14), TinString.NONE);
        c.due("stiff", x.told(20), 9);
        c.due("stiff", x.told(21), 8);
        for (int what : new int[] {-1, 9, 15, 19, 22, 23, 24, 30, 100, Integer.MAX_VALUE, Integer.MIN_VALUE}) {
            c.due("told " + what, x.told(what), TinString.NONE);
        }
        c.due("noise told 0", x.told(8), 0);
        int[][][] want = {
            {{1, 2, 3, 4}, {5, 6, 7, 8}, {9, 10, 11, 12}, {13, 14, 15, 999}},
            {{100, 90, 80, 70}, {0, 1, 2, 3}},
            {{1, 2, 3, 4}, {9, 8, 7, 6}},
            {{1, 2, 3, 4}, {0, 9, 8, 7}}};
        for (int kind = 0; kind < 4; kind++) {
            for (int k = 0; k < want[kind].length; k++) {
                for (int b = 0; b < 4; b++) {
                    c.due("band " + kind + " " + k + " " + b, x.band(kind, k, b), want[kind][k][b]);
                }
            }
            c.due("no number", x.band(kind, want[kind].length, 0), TinString.RANGE);
            c.due("no number", x.band(kind, -1, 0), TinString.RANGE);
            c.due("no band", x.band(kind, 0, 4), TinString.RANGE);
            c.due("no band", x.band(kind, 0, -1), TinString.RANGE);
        }
        c.due("no kind", x.band(-1, 0, 0), TinString.RANGE);
        c.due("no kind", x.band(4, 0, 0), TinString.RANGE);
        c.due("no kind", x.band(5, 0, 0), TinString.RANGE);
    }

    public static void main(String[] args) {
        c.due("NONE", TinString.NONE, -1);
        c.due("RANGE", TinString.RANGE, -2);
        c.due("FULL", TinString.FULL, -3);
        c.due("STATE", TinString.STATE, -4);
        promise1();
        promise2();
        promise3();
        texts();
        promises4and5();
        again();
        promises6and7();
        c.end();
    }
}
