/** Boundary cases of term I and of promises 1 to 7: THE TAPE, its TOKENS, the STREET and its FAULTS. */
final class EdgesStreet {
    private static final int BLANKS = 0x20202020;
    private static final int SYNTAX = 1, OUT = 2, TWICE = 3, ROOM = 4;

    // Of each clause: its first WORD, W for a name, the bounds of each N.
    private static final String[][] CLAUSES = {
        {"stuff", "W", "1 99", "0 999", "0 999", "0 999", "0 999"},
        {"tin", "W", "0 100", "0 100", "0 100", "0 100"},
        {"word", "W", "0 9", "0 9", "0 9", "0 9"},
        {"house", "W", "0 99", "0 99"},
        {"post", "0 99", "0 99"},
        {"loop", "W", "1 9", "0 9", "0 9", "0 9", "0 9"},
        {"wet", "0 90"},
        {"wind", "0 50"},
        {"noise", "0 3"}};

    // Clauses of each kind, # for a letter and % for a digit, and how many there may be.
    private static final String[] ONE = {"stuff # 1 0 0 0 0;", "tin # 0 0 0 0;", "word # 0 0 0 0;", "house # % 0;", "post % 0;",
        "loop # 1 0 0 0 0;", "wet 0;", "wind 0;", "noise 0;"};
    private static final int[] ROOMS = {4, 4, 6, 5, 4, 4};

    private final Edges e;

    EdgesStreet(Edges e) {
        this.e = e;
    }

    void all() {
        newObject();
        feedBytes();
        feedFull();
        endOfTape();
        fullTape();
        emptied();
        everyByte();
        runs();
        clauses();
        bounds();
        rooms();
        names();
        places();
        onceOnly();
        notTold();
        order();
        streetTells();
        faultTells();
        toldAndBand();
    }

    private static int feedBlanks(TinString x) {
        return x.feed(BLANKS, BLANKS, BLANKS, BLANKS, BLANKS);
    }

    /** THE TAPE has so many blanks. */
    private static TinString tapeOf(int n) {
        TinString x = new TinString();
        for (int i = 0; i < 45; i++) {
            feedBlanks(x);
        }
        x.end(n);
        return x;
    }

    private static String full(String end) {
        return " ".repeat(900 - end.length()) + end;
    }

    private void newObject() {
        e.says("1", "A STREET of which nothing is told");
        TinString x = new TinString();
        for (int what = 0; what <= 30; what++) {
            e.due("told " + what, x.told(what), what < 8 ? 0 : what == 8 ? 1 : Edges.NONE);
        }
        for (int kind = 0; kind < 4; kind++) {
            e.due("band of kind " + kind, x.band(kind, 0, 0), Edges.RANGE);
        }
        for (int what = 0; what <= 6; what++) {
            e.due("count " + what, x.count(what), what == 4 ? 2 : 0);
        }
        e.due("yards", x.yards(0, 1), Edges.RANGE);
        e.due("write", x.write(0, 0, 0), Edges.RANGE);
        e.says("1", "a LINE of STUFF 0, TIN 0, 10 YARDS, PULL 0, without BENDS and TIES");
        e.due("a first BEND", x.bend(-1), 1);
        e.due("a first TIE", x.tie(0), 1);
        x = new TinString();
        e.due("no BENDS and TIES", x.straighten(), 0);
        e.due("no TIE 0", x.share(0, 0, 0), Edges.RANGE);
        e.due("no BEND 0", x.bestLoop(0), Edges.RANGE);
        x = Check.with("stuff a 50 0 0 0 0;stuff b 60 0 0 0 0;tin t 100 100 100 100;");
        e.due("STUFF 0", x.bears(0), 50);
        e.due("PULL 0: slack", x.bears(1), 0);
        e.due("PULL 0: not snapped", x.bears(2), 0);
        e.due("slack: nothing comes", x.through(9, 0), 0);
        e.says("1", "a ROW of 2 CELLS");
        x = new TinString();
        e.due("the last one", x.goes(1, 2), 100);
        e.due("behind it", x.goes(2, 2), Edges.OFF);
        x.send(0, 5);
        e.due("ticks", x.tick(1), 1);
        e.due("in the last one", x.goes(1, 0), 5);
        e.due("ticks", x.tick(1), 2);
        e.due("out", x.out(1), 5);
    }

    private void feedBytes() {
        e.says("2", "Twenty bytes come behind THE TAPE, the highest of each int first");
        for (int p = 0; p < 20; p++) {
            for (int odd : new int[] {0, 33, 127, 128, 255}) {
                int[] v = {BLANKS, BLANKS, BLANKS, BLANKS, BLANKS};
                int shift = 24 - 8 * (p % 4);
                v[p / 4] = v[p / 4] & ~(255 << shift) | odd << shift;
                TinString x = new TinString();
                e.due("feed", x.feed(v[0], v[1], v[2], v[3], v[4]), 20);
                e.due("street", x.street(), Edges.NONE);
                e.due("byte " + odd + " is the one at", x.fault(1), p);
            }
        }
        // "wet 90" is behind 14 blanks, and 20 more bytes come behind it.
        TinString x = new TinString();
        e.due("feed", x.feed(BLANKS, BLANKS, BLANKS, 0x20207765, 0x74203930), 20);
        e.due("feed", x.feed(0x3b202020, BLANKS, BLANKS, BLANKS, BLANKS), 40);
        e.due("street", x.street(), 1);
        e.due("wet", x.told(6), 90);
    }

    private void feedFull() {
        e.says("2", "how many it has; FULL when there would be more than 900");
        for (int n : new int[] {0, 1, 19, 20, 860, 879, 880}) {
            TinString x = tapeOf(n);
            e.due("feed behind " + n, feedBlanks(x), n + 20);
            e.due("it has", x.count(6), n + 20);
        }
        for (int n : new int[] {881, 882, 899, 900}) {
            TinString x = tapeOf(n);
            e.due("feed behind " + n, x.feed(0x3b3b3b3b, 0, 0, 0, 0), Edges.FULL);
            e.due("it has", x.count(6), n);
            e.due("none of it has come", x.street(), 0);
        }
    }

    private void endOfTape() {
        e.says("3", "THE TAPE has its first n bytes alone: n; NONE when it has not so many, or n is below 0");
        TinString x = new TinString();
        e.due("none of none", x.end(0), 0);
        for (int n : new int[] {1, -1, Edges.LEAST, Edges.MOST}) {
            e.due("end " + n + " of none", x.end(n), Edges.NONE);
        }
        Check.lay(x, "wet 12;wet 3;");
        for (int n : new int[] {14, 20, -1, Edges.LEAST, Edges.MOST}) {
            e.due("end " + n + " of 13", x.end(n), Edges.NONE);
            e.due("as it was", x.count(6), 13);
        }
        e.due("all", x.end(13), 13);
        e.due("one less", x.end(12), 12);
        e.due("that one is gone", x.end(13), Edges.NONE);
        e.due("the first clause", x.end(7), 7);
        feedBlanks(x);
        e.due("what was cut isn't there again", x.street(), 1);
        x = tapeOf(900);
        e.due("beyond all", x.end(901), Edges.NONE);
        e.due("all", x.end(900), 900);
        e.due("none", x.end(0), 0);
        e.due("one of none", x.end(1), Edges.NONE);
    }

    private void fullTape() {
        e.says("I", "THE TAPE has at most 900 bytes");
        TinString x = new TinString();
        Check.lay(x, full("wet 7;"));
        e.due("all of them", x.count(6), 900);
        e.due("no more", feedBlanks(x), Edges.FULL);
        e.due("read to the last", x.street(), 1);
        e.due("wet", x.told(6), 7);
        e.due("and room again", feedBlanks(x), 20);
        e.fault(full("wet 7!"), SYNTAX, 899);
        e.fault(full("wet 91"), OUT, 898);
        e.fault(full("wet 7"), SYNTAX, 900);
        e.fault(full("wet 0;wet"), TWICE, 897);
        e.good(full(""), 0);
    }

    private void emptied() {
        e.says("I", "each call that reads it empties it, whatever it tells");
        e.good("wet 1;", 1);
        e.good("", 0);
        e.fault("we", SYNTAX, 0);
        e.fault("wet 91;", OUT, 4);
        e.fault("wet 1;wet 1;wet 1;", TWICE, 6);
        e.fault(Edges.many(ONE[4], 5), ROOM, 36);
        for (String row : new String[] {"1 2 3 4", "", "1 2 3 4 5", "101 1 1 1", "a", "1;", full("5")}) {
            TinString x = new TinString();
            Check.lay(x, row);
            x.taps();
            e.due("behind taps of [" + row + "]", x.count(6), 0);
            e.due("nothing is left", x.taps(), Edges.NONE);
            for (int sent : new int[] {0, 99999, 100000, -1}) {
                Check.lay(x, row);
                x.listened(sent, 0, 0);
                e.due("behind listened of [" + row + "]", x.count(6), 0);
                e.due("nothing is left", x.listened(0, 0, 0), Edges.NONE);
            }
        }
    }

    private void everyByte() {
        e.says("I", "TOKENS with any blanks (32, 10) between");
        for (int v = 0; v < 256; v++) {
            String s = String.valueOf((char) v);
            boolean blank = v == 32 || v == 10;
            boolean digit = v >= 48 && v <= 57;
            boolean small = v >= 97 && v <= 122;
            one(s + "wet 1;", blank, SYNTAX, 0);
            one("wet 1" + s + ";", blank || digit, SYNTAX, v == ';' ? 6 : 5);
            one("wet 1;" + s, blank, SYNTAX, 6);
            one("tin " + s + " 1 1 1 1;", small, SYNTAX, blank ? 6 : 4);
            one("wet " + s + ";", digit, SYNTAX, blank ? 5 : 4);
            if (small) {
                one("wet" + s + "1;", false, SYNTAX, 0);
            } else {
                one("wet" + s + "1;", blank || digit && v < '9', v == '9' ? OUT : SYNTAX, 3);
            }
        }
        e.good("\n\n  wet\n \n1 \n;  \n", 1);
        e.good("tin a1 2 3 4;house b1 2;post1 2;noise3;", 4);
        e.good(" \n".repeat(440) + "wet 1;", 1);
    }

    private void one(String text, boolean isGood, int kind, int place) {
        if (isGood) {
            e.good(text, 1);
        } else {
            e.fault(text, kind, place);
        }
    }

    private void runs() {
        e.says("I", "WORDS (small letters, as many as there are, 8 at most)");
        for (int letters = 1; letters <= 8; letters++) {
            e.good("tin " + "z".repeat(letters) + " 1 1 1 1;tin " + "a".repeat(letters) + " 1 1 1 1;", 2);
        }
        for (int letters : new int[] {9, 10, 16, 17, 32, 33, 64, 800}) {
            e.fault("tin " + "a".repeat(letters) + " 1 1 1 1;", SYNTAX, 4);
            e.fault("wet 1;" + "a".repeat(letters), SYNTAX, 6);
        }
        e.fault("stuff ab c 1 1 1 1 1;", SYNTAX, 9);
        e.fault("we t 1;", SYNTAX, 0);
        e.fault("tinb 1 1 1 1;", SYNTAX, 0);
        e.says("I", "N (digits, as many as there are, 4 at most), ;.");
        for (String n : new String[] {"9", "09", "009", "0009"}) {
            TinString x = Check.with("wet " + n + ";");
            e.due("wet", x.told(6), 9);
        }
        e.fault("wet 9999;", OUT, 4);
        for (String n : new String[] {"00009", "10000", "4294967296", "18446744073709551617", "0".repeat(890)}) {
            e.fault("wet " + n + ";", SYNTAX, 4);
        }
        e.fault("wet 1 2;", SYNTAX, 6);
        e.fault("post 12;", SYNTAX, 7);
    }

    private static String low(String bounds) {
        return bounds.substring(0, bounds.indexOf(' '));
    }

    private static String high(String bounds) {
        return bounds.substring(bounds.indexOf(' ') + 1);
    }

    /** The TOKENS of a clause ahead of one of them, each with a blank behind. */
    private static String ahead(String[] shape, int part) {
        StringBuilder b = new StringBuilder();
        for (int i = 0; i < part; i++) {
            b.append(i == 0 ? shape[0] : shape[i].equals("W") ? "name" : low(shape[i])).append(' ');
        }
        return b.toString();
    }

    private static String behind(String[] shape, int part) {
        StringBuilder b = new StringBuilder();
        for (int i = part + 1; i < shape.length; i++) {
            b.append(' ').append(low(shape[i]));
        }
        return b.append(';').toString();
    }

    private void clauses() {
        e.says("I", "A STREET is a text = {clause \";\"}. clause = \"stuff\" W N N N N N | \"tin\" W N N N N | \"word\" W N N N N "
            + "| \"house\" W N N | \"post\" N N | \"loop\" W N N N N N | (\"wet\" | \"wind\" | \"noise\") N");
        e.says("I", "1 SYNTAX: a TOKEN (or byte that is none, a run that is too long) with which no text goes on");
        e.good("", 0);
        e.good("\n", 0);
        e.fault(";", SYNTAX, 0);
        e.fault("7;", SYNTAX, 0);
        e.fault("name;", SYNTAX, 0);
        for (String[] shape : CLAUSES) {
            firstWords(shape);
            e.good(ahead(shape, shape.length) + ";", 1);
            for (int part = 1; part <= shape.length; part++) {
                String ahead = ahead(shape, part);
                // The end of the text, where it can't be: with blanks behind the last TOKEN, and without.
                e.fault(ahead, SYNTAX, ahead.length());
                e.fault(ahead + " \n", SYNTAX, ahead.length() + 2);
                e.fault(ahead.trim(), SYNTAX, ahead.length() - 1);
                boolean name = part < shape.length && shape[part].equals("W");
                boolean number = part < shape.length && !name;
                if (part < shape.length) {
                    e.fault(ahead + ";", SYNTAX, ahead.length());
                }
                if (!name) {
                    e.fault(ahead + "name;", SYNTAX, ahead.length());
                    e.fault(ahead + "wet 1;", SYNTAX, ahead.length());
                }
                if (!number) {
                    e.fault(ahead + "1;", SYNTAX, ahead.length());
                }
                e.fault(ahead + "!", SYNTAX, ahead.length());
                e.fault(ahead + "ninechars", SYNTAX, ahead.length());
                e.fault(ahead + "00001", SYNTAX, ahead.length());
            }
            e.fault(ahead(shape, shape.length) + ";;", SYNTAX, ahead(shape, shape.length).length() + 1);
        }
    }

    /** A first WORD with one letter that is another one, too few, too many, or another's place. */
    private void firstWords(String[] shape) {
        String first = shape[0];
        String rest = ahead(shape, shape.length).substring(first.length()) + ";";
        for (int i = 0; i <= first.length(); i++) {
            String before = first.substring(0, i);
            e.fault(before + "x" + first.substring(i) + rest, SYNTAX, 0);
            if (i < first.length()) {
                String after = first.substring(i + 1);
                e.fault(before + "x" + after + rest, SYNTAX, 0);
                e.fault(before + after + rest, SYNTAX, 0);
                e.fault(before + Character.toUpperCase(first.charAt(i)) + after + rest, SYNTAX, 0);
                if (i > 0) {
                    e.fault(before + " " + first.substring(i) + rest, SYNTAX, 0);
                }
            }
        }
    }

    private void bounds() {
        e.says("I", "stuff: a name, its SNAP 1 .. 99, and of each BAND how much of a thousand it loses in a yard 0 .. 999");
        e.says("I", "tin: of each BAND how much of a hundred it takes 0 .. 100");
        e.says("I", "word: how LOUD it is in each BAND 0 .. 9");
        e.says("I", "house: x, y, 0 .. 99 yards");
        e.says("I", "post: x, y likewise");
        e.says("I", "loop: STIFF 1 .. 9, and of each BAND the stiffness 0 .. 9 that suits it");
        e.says("I", "Bounds (and what isn't told): wet 0 .. 90 of a hundred (0), wind 0 .. 50 (0), noise 0 .. 3 (1)");
        e.says("I", "2 RANGE: an N out of its bounds");
        for (int kind = 0; kind < CLAUSES.length; kind++) {
            String[] shape = CLAUSES[kind];
            for (int part = 1; part < shape.length; part++) {
                if (!shape[part].equals("W")) {
                    bounds(kind, shape, part);
                }
            }
        }
        // The greatest of each at once.
        e.good("stuff a 99 999 999 999 999;tin a 100 100 100 100;word a 9 9 9 9;house a 99 99;post 99 99;loop a 9 9 9 9 9;"
            + "wet 90;wind 50;noise 3;", 9);
    }

    private void bounds(int kind, String[] shape, int part) {
        String ahead = ahead(shape, part);
        String behind = behind(shape, part);
        for (String n : new String[] {low(shape[part]), high(shape[part])}) {
            e.good(ahead + n + behind, 1);
            TinString x = Check.with(ahead + n + behind);
            long got = toldOf(x, kind, part);
            e.due("told of " + ahead + n + behind, got, got == Edges.OFF ? Edges.OFF : Integer.parseInt(n));
        }
        int least = Integer.parseInt(low(shape[part]));
        int most = Integer.parseInt(high(shape[part]));
        if (least > 0) {
            e.fault(ahead + (least - 1) + behind, OUT, ahead.length());
            e.fault(ahead + "0000" + behind, OUT, ahead.length());
        }
        e.fault(ahead + (most + 1) + behind, OUT, ahead.length());
        e.fault(ahead + "9999" + behind, OUT, ahead.length());
        // Nothing behind it matters.
        e.fault(ahead + (most + 1), OUT, ahead.length());
        e.fault(ahead + (most + 1) + " ! 9999", OUT, ahead.length());
    }

    private static long toldOf(TinString x, int kind, int part) {
        switch (kind) {
            case 0:
                return part == 2 ? x.told(10) : x.band(0, 0, part - 3);
            case 1:
                return x.band(1, 0, part - 2);
            case 2:
                return x.band(2, 0, part - 2);
            case 5:
                return part == 2 ? x.told(20) : x.band(3, 0, part - 3);
            case 6:
            case 7:
            case 8:
                return x.told(kind);
            default:
                return Edges.OFF;
        }
    }

    private void rooms() {
        e.says("I", "At most 4 STUFFS, 4 TINS, 6 WORDS SAID, 5 HOUSES, 4 POSTS, 4 LOOPS, numbered from 0 as they come");
        e.says("I", "4 ROOM: one too many of a kind, at its first WORD");
        for (int kind = 0; kind < 6; kind++) {
            String all = Edges.many(ONE[kind], ROOMS[kind]);
            e.good(all, ROOMS[kind]);
            TinString x = Check.with(all);
            e.due("told of kind " + kind, x.told(kind), ROOMS[kind]);
            String first = CLAUSES[kind][0];
            for (String behind : new String[] {" z 9 9 9 9 9;", "", " a", ";", "!", " 9999"}) {
                e.fault(all + first + behind, ROOM, all.length());
            }
            e.fault(all + first + "s", SYNTAX, all.length());
            // The others have room still.
            for (int other = 0; other < 6; other++) {
                if (other != kind) {
                    e.good(all + Edges.many(ONE[other], ROOMS[other]), ROOMS[kind] + ROOMS[other]);
                }
            }
        }
        StringBuilder all = new StringBuilder();
        for (int kind = 0; kind < 9; kind++) {
            all.append(Edges.many(ONE[kind], kind < 6 ? ROOMS[kind] : 1));
        }
        e.good(all.toString(), 30);
        for (int kind = 0; kind < 9; kind++) {
            e.fault(all + CLAUSES[kind][0], kind < 6 ? ROOM : TWICE, all.length());
        }
        // Kinds by turns: each is numbered by itself.
        TinString x = Check.with("tin z 1 0 0 0;stuff z 1 1 0 0 0;tin y 2 0 0 0;word a 1 0 0 0;stuff a 2 2 0 0 0;word b 2 0 0 0;"
            + "loop a 3 1 0 0 0;tin a 3 0 0 0;loop b 4 2 0 0 0;");
        for (int k = 0; k < 2; k++) {
            e.due("STUFF " + k, x.band(0, k, 0), k + 1);
            e.due("SNAP " + k, x.told(10 + k), k + 1);
            e.due("TIN " + k, x.band(1, k, 0), k + 1);
            e.due("WORD " + k, x.band(2, k, 0), k + 1);
            e.due("LOOP " + k, x.band(3, k, 0), k + 1);
            e.due("STIFF " + k, x.told(20 + k), k + 3);
        }
        e.due("TIN 2", x.band(1, 2, 0), 3);
    }

    private void names() {
        e.says("I", "names of one kind are unlike");
        e.says("I", "3 TWICE: ... a name that one of its kind has");
        for (int kind : new int[] {0, 1, 2, 3, 5}) {
            String first = CLAUSES[kind][0];
            String all = Edges.many(ONE[kind], ROOMS[kind] - 1);
            for (int k = 0; k < ROOMS[kind] - 1; k++) {
                String again = all + first + " " + (char) ('a' + k);
                e.fault(again, TWICE, again.length() - 1);
                e.fault(again + " 9999", TWICE, again.length() - 1);
                e.fault(again + "9 9", TWICE, again.length() - 1);
            }
            e.good(all + ONE[kind].replace("#", "aa").replace('%', '9'), ROOMS[kind]);
        }
        e.good("stuff same 1 0 0 0 0;tin same 0 0 0 0;word same 0 0 0 0;house same 0 0;loop same 1 0 0 0 0;", 5);
        // Eight letters, each of which tells names apart; a name as a first WORD.
        for (int i = 0; i < 8; i++) {
            String other = "a".repeat(i) + "b" + "a".repeat(7 - i);
            e.good("tin aaaaaaaa 0 0 0 0;tin " + other + " 0 0 0 0;", 2);
            e.fault("tin " + other + " 0 0 0 0;tin " + other, TWICE, 25);
        }
        // The same letters in another order, as many of one letter, one letter more.
        String[] all = {"a", "b", "z", "aa", "ab", "ba", "bb", "az", "za", "zz", "aaa", "aab", "aba", "baa", "abb", "bab", "bba", "zzz",
            "aaaaaaa", "aaaaaaaa", "zzzzzzz", "zzzzzzzz", "abcdefgh", "hgfedcba", "bcdefgha", "bcdefgh", "abcdefg"};
        for (String one : all) {
            for (String other : all) {
                String text = "word " + one + " 0 0 0 0;word " + other;
                if (one.equals(other)) {
                    e.fault(text, TWICE, text.length() - other.length());
                } else {
                    e.good(text + " 0 0 0 0;", 2);
                }
            }
        }
        for (char letter = 'a'; letter <= 'z'; letter++) {
            e.good("tin " + letter + " 0 0 0 0;tin " + letter + letter + " 0 0 0 0;tin " + letter + letter + letter + " 0 0 0 0;", 3);
        }
        e.good("tin tin 0 0 0 0;tin wet 0 0 0 0;wet 1;", 3);
        e.fault("tin wet 0 0 0 0;tin wet", TWICE, 20);
    }

    private void places() {
        e.says("I", "the y of a HOUSE (a POST) where one of its kind is");
        String houses = "house a 1 2;house b 3 4;house c 0 0;house d 99 99;";
        String posts = "post 1 2;post 3 4;post 0 0;";
        for (String at : new String[] {"1 2", "3 4", "0 0", "99 99"}) {
            int y = at.indexOf(' ') + 1;
            String house = houses + "house e ";
            e.fault(house + at + ";", TWICE, house.length() + y);
            e.fault(house + at, TWICE, house.length() + y);
            if (!at.equals("99 99")) {
                e.fault(posts + "post " + at, TWICE, posts.length() + 5 + y);
            }
            e.good(houses + "post " + at + ";", 5);
        }
        for (String at : new String[] {"1 1", "2 1", "2 2", "1 4", "3 2", "4 3", "0 1", "98 99", "99 98"}) {
            e.good(houses + "house e " + at + ";", 5);
            e.good(posts + "post " + at + ";", 4);
        }
        e.good(posts + "house a 1 2;house b 3 4;", 5);
        // The same place, other digits; an x alone is none yet.
        e.fault("post 1 2;post 01 002", TWICE, 17);
        e.fault("post 1 2;post 1", SYNTAX, 15);
        e.fault("post 1 2;post 1 100", OUT, 16);
    }

    private void onceOnly() {
        e.says("I", "3 TWICE: wet, wind, noise again");
        for (String first : new String[] {"wet", "wind", "noise"}) {
            String once = first + " 0;";
            e.good(once, 1);
            e.fault(once + first, TWICE, once.length());
            e.fault(once + first + " 0;", TWICE, once.length());
            e.fault(once + first + " 9999;", TWICE, once.length());
            e.fault(once + first + "x", SYNTAX, once.length());
        }
        e.good("noise 1;wet 0;wind 0;", 3);
    }

    private void notTold() {
        e.says("I", "wet 0 .. 90 of a hundred (0), wind 0 .. 50 (0), noise 0 .. 3 (1)");
        TinString x = Check.with("wet 90;wind 50;noise 3;");
        int[] told = {90, 50, 3};
        int[] not = {0, 0, 1};
        for (String text : new String[] {"", "tin t 0 0 0 0;", "wet 90;", "wind 50;", "noise 3;", "noise 0;"}) {
            Check.street(x, "wet 90;wind 50;noise 3;");
            Check.street(x, text);
            e.due("wet behind [" + text + "]", x.told(6), text.startsWith("wet") ? told[0] : not[0]);
            e.due("wind behind [" + text + "]", x.told(7), text.startsWith("wind") ? told[1] : not[1]);
            e.due("noise behind [" + text + "]", x.told(8), text.equals("noise 3;") ? told[2] : text.equals("noise 0;") ? 0 : not[2]);
        }
    }

    private void order() {
        e.says("I", "FAULTS: KIND and PLACE (a TOKEN's first byte; the text's length at its end), the first come to as TOKENS are read one by one, "
            + "of one TOKEN the least KIND");
        e.fault("wet 91;wet", OUT, 4);
        e.fault("wet 1;wet 91", TWICE, 6);
        e.fault("wet 91 !", OUT, 4);
        e.fault("wet ! 91", SYNTAX, 4);
        e.fault("tin a 101 0 0 0;tin a", OUT, 6);
        e.fault("tin a 0 0 0 0;tin a 101", TWICE, 18);
        e.fault("house a 1 2;house a 1 2;", TWICE, 18);
        e.fault("house a 1 2;house b 100 2;", OUT, 20);
        e.fault(Edges.many(ONE[4], 4) + "post 0 0;", ROOM, 36);
        e.fault(Edges.many(ONE[4], 3) + "post 0 0;post", TWICE, 34);
        // Of one TOKEN: too long a run of digits is out of its bounds too.
        e.fault("wet 10000;", SYNTAX, 4);
        e.fault("loop a 00000", SYNTAX, 7);
        e.fault("   wet\n\n 91", OUT, 9);
    }

    private void streetTells() {
        e.says("4", "THE TAPE is a STREET: how many clauses; NONE with a FAULT (it stays)");
        TinString x = new TinString();
        e.due("of nothing", x.street(), 0);
        e.due("one", Check.street(x, "wet 3;"), 1);
        e.due("with a FAULT", Check.street(x, "wet 4;noise 4;"), Edges.NONE);
        e.due("it stays", x.told(6), 3);
        e.due("its clauses stay", x.count(0), 1);
        for (int i = 0; i < 6; i++) {
            // The same text again is no FAULT: what it tells is not there twice.
            e.due("the same again", Check.street(x, "tin t 0 0 0 0;house h 1 1;post 1 1;wet 3;"), 4);
            e.due("cut off", Check.street(x, "tin t 0 0 0 0;house h 1 1;post 1 1;wet 3;tin u 0 0"), Edges.NONE);
        }
        e.due("one again", Check.street(x, "wet 3;"), 1);
        e.due("nothing again", Check.street(x, ""), 0);
        e.due("nothing told", x.told(6), 0);
        e.due("no clauses", x.count(0), 0);
        e.says("4", "Without one the LINE is as at first then, WRITTEN, WISHES none, the latest STEP 0");
        String text = "stuff a 9 0 0 0 0;stuff b 8 0 0 0 0;tin t 100 100 100 100;word w 9 9 9 9;house a 0 0;house b 0 1;";
        x = Check.with(text);
        x.line(1, 0, 5, 8);
        x.bend(-1);
        x.tie(3);
        x.wish(0, 1);
        x.write(999, 0, 0);
        x.right(999, 0, 0);
        e.due("the latest STEP", x.write(998, 0, 0), Edges.RANGE);
        Check.street(x, "wet");
        e.due("with a FAULT it stays", x.bears(1), 100);
        e.due("with a FAULT it stays", x.write(998, 0, 0), Edges.RANGE);
        e.due("with a FAULT they stay", x.count(1) + x.count(2) + x.count(3), 3);
        e.due("the same again", Check.street(x, text), 6);
        e.due("STUFF 0", x.bears(0), 9);
        e.due("PULL 0", x.bears(1), 0);
        e.due("no BENDS and TIES", x.straighten(), 0);
        e.due("WRITTEN, puttings RIGHT, WISHES", x.count(1) + x.count(2) + x.count(3), 0);
        e.due("no WRITTEN 0", x.right(0, 0, 0), Edges.RANGE);
        e.due("STEP 0", x.write(0, 0, 0), 0);
        e.due("puttings RIGHT from the first on", x.right(0, 0, 0), 1);
        e.due("WISHES from the first on", x.wish(1, 0), 1);
        e.says("4", "(The ROW stays.)");
        x.stretch(3);
        x.send(0, 7);
        x.tick(1);
        x.keep(2);
        Check.street(x, "");
        e.due("CELLS", x.count(4), 3);
        e.due("TICKS", x.count(5), 1);
        e.due("its pull", x.goes(1, 0), 7);
        e.due("its SLOT", x.take(2), 1);
    }

    private void faultTells() {
        e.says("5", "Of the latest street(), what 0: its FAULT's KIND, 0 without (and ahead of any), 1: its PLACE (NONE). NONE for another what");
        TinString x = new TinString();
        String[] texts = {"", "wet", "", "wet 91", "wet 1;wet", Edges.many(ONE[4], 5), ";", ""};
        int[] kinds = {0, SYNTAX, 0, OUT, TWICE, ROOM, SYNTAX, 0};
        int[] places = {Edges.NONE, 3, Edges.NONE, 4, 6, 36, 0, Edges.NONE};
        e.due("ahead of any", x.fault(0), 0);
        e.due("ahead of any", x.fault(1), Edges.NONE);
        for (int i = 0; i < texts.length; i++) {
            Check.street(x, texts[i]);
            // What reads THE TAPE too is no street().
            Check.lay(x, "wet 91");
            x.taps();
            Check.lay(x, "wet");
            x.listened(0, 0, 0);
            e.due("KIND", x.fault(0), kinds[i]);
            e.due("PLACE", x.fault(1), places[i]);
            for (int what : new int[] {-1, 2, 3, Edges.MOST, Edges.LEAST}) {
                e.due("another what", x.fault(what), Edges.NONE);
            }
        }
    }

    private void toldAndBand() {
        e.says("6", "What 0: STUFFS, 1: TINS, 2: WORDS, 3: HOUSES, 4: POSTS, 5: LOOPS, 6: wet, 7: wind, 8: noise; "
            + "10 + s: SNAP of STUFF s, 20 + l: STIFF of LOOP l. NONE for others");
        for (int many = 0; many <= 4; many++) {
            TinString x = Check.with(Edges.many("stuff # 9% 0 0 0 0;", many) + Edges.many("loop # 5 % % % %;", many));
            for (int k = 0; k < 10; k++) {
                e.due("SNAP of STUFF " + k + " of " + many, x.told(10 + k), k < many ? 90 + k : Edges.NONE);
                e.due("STIFF of LOOP " + k + " of " + many, x.told(20 + k), k < many ? 5 : Edges.NONE);
            }
        }
        TinString x = Check.with("stuff a 9 1 2 3 4;tin a 5 6 7 8;tin b 9 10 11 12;word a 1 2 3 4;word b 5 6 7 8;word c 9 0 1 2;"
            + "house a 0 0;house b 0 1;house c 0 2;house d 0 3;post 0 0;post 0 1;post 0 2;loop a 1 3 4 5 6;wet 7;wind 8;noise 2;");
        int[] told = {1, 2, 3, 4, 3, 1, 7, 8, 2};
        for (int what = 0; what < told.length; what++) {
            e.due("told " + what, x.told(what), told[what]);
        }
        for (int what : new int[] {-1, -2, 9, 11, 21, 30, 31, 100, 1000, Edges.MOST, Edges.LEAST}) {
            e.due("told " + what, x.told(what), Edges.NONE);
        }
        e.says("7", "Of a kind (0 STUFF, 1 TIN, 2 WORD, 3 LOOP) number k what is told of a BAND; RANGE");
        e.says("I", "There are four BANDS, 0 .. 3");
        int[] many = {1, 2, 3, 1};
        int[] first = {1, 5, 1, 3};
        for (int kind = 0; kind < 4; kind++) {
            e.due("the first BAND", x.band(kind, 0, 0), first[kind]);
            e.due("the last BAND", x.band(kind, 0, 3), first[kind] + 3);
            for (int b : new int[] {-1, 4, Edges.MOST, Edges.LEAST}) {
                e.due("BAND " + b, x.band(kind, 0, b), Edges.RANGE);
            }
            e.must("the last one", x.band(kind, many[kind] - 1, 3) >= 0);
            for (int k : new int[] {-1, many[kind], Edges.MOST, Edges.LEAST}) {
                e.due("number " + k, x.band(kind, k, 0), Edges.RANGE);
            }
        }
        for (int kind : new int[] {-1, 4, 5, 8, Edges.MOST, Edges.LEAST}) {
            e.due("kind " + kind, x.band(kind, 0, 0), Edges.RANGE);
        }
    }
}
