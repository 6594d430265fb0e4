import java.util.Random;

/** Long runs of random calls, right and wrong ones, each answer held against Reference. */
public final class RandomRuns {
    private static final Check check = new Check();
    private static Random r;

    private static final String[] FIRST = {"stuff", "tin", "word", "house", "post", "loop", "wet", "wind", "noise"};

    private static int upTo(int n) {
        return r.nextInt(n + 1);
    }

    /** Mostly 0 .. n, at times beyond. */
    private static int about(int n) {
        int luck = r.nextInt(40);
        if (luck == 0) {
            return n + 1;
        }
        if (luck == 1) {
            return -1;
        }
        if (luck == 2) {
            return r.nextInt();
        }
        return n < 0 ? 0 : upTo(n);
    }

    private static String name() {
        int letters = 1 + r.nextInt(r.nextInt(10) == 0 ? 8 : 2);
        StringBuilder b = new StringBuilder();
        for (int i = 0; i < letters; i++) {
            b.append((char) ('a' + r.nextInt(26)));
        }
        return b.toString();
    }

    private static int loss() {
        int luck = r.nextInt(4);
        return luck == 0 ? r.nextInt(1000) : luck == 1 ? r.nextInt(60) : r.nextInt(12);
    }

    private static String clause(String kind) {
        StringBuilder b = new StringBuilder(kind).append(' ');
        switch (kind) {
            case "stuff" -> b.append(name() + " " + (1 + r.nextInt(99)) + " " + loss() + " " + loss() + " " + loss() + " " + loss());
            case "tin" -> b.append(name() + " " + (100 - r.nextInt(40)) + " " + upTo(100) + " " + (50 + upTo(50)) + " " + (80 + upTo(20)));
            case "word" -> b.append(name() + " " + upTo(9) + " " + upTo(9) + " " + upTo(9) + " " + upTo(9));
            case "house" -> {
                int w = r.nextBoolean() ? 99 : 4;
                b.append(name() + " " + upTo(w) + " " + upTo(w));
            }
            case "post" -> {
                int w = r.nextInt(4) == 0 ? 99 : 4;
                b.append(upTo(w) + " " + upTo(w));
            }
            case "loop" -> b.append(name() + " " + (1 + r.nextInt(9)) + " " + upTo(9) + " " + upTo(9) + " " + upTo(9) + " " + upTo(9));
            case "wet" -> b.append(upTo(r.nextBoolean() ? 90 : 20));
            case "wind" -> b.append(upTo(r.nextBoolean() ? 50 : 5));
            default -> b.append(upTo(3));
        }
        return b.append(r.nextInt(8) == 0 ? "\n ; " : ";").toString();
    }

    private static String text() {
        StringBuilder b = new StringBuilder();
        int[] at = new int[9];
        int[] room = {4, 4, 6, 5, 4, 4, 1, 1, 1};
        for (int k = 0; k < 9; k++) {
            at[k] = r.nextInt(7) == 0 ? 0 : upTo(room[k] + (r.nextInt(25) == 0 ? 1 : 0));
            for (int i = 0; i < at[k]; i++) {
                b.append(clause(FIRST[k]));
            }
        }
        return r.nextInt(3) == 0 ? damaged(b) : b.toString();
    }

    private static String damaged(StringBuilder b) {
        String odd = "az09 ;\n!AZ\u00e9\u0000";
        for (int i = r.nextInt(3); i >= 0; i--) {
            int at = upTo(b.length());
            switch (r.nextInt(5)) {
                case 0 -> b.insert(at, odd.charAt(r.nextInt(odd.length())));
                case 1 -> b.delete(at, Math.min(b.length(), at + 1 + r.nextInt(4)));
                case 2 -> b.setLength(at);
                case 3 -> b.insert(at, " " + FIRST[r.nextInt(9)] + " ");
                default -> b.insert(at, r.nextInt(2000));
            }
        }
        return b.toString();
    }

    private static String numbers() {
        StringBuilder b = new StringBuilder();
        int many = r.nextInt(3) == 0 ? r.nextInt(18) : 4;
        int most = r.nextBoolean() ? 100 : 9999;
        for (int i = 0; i < many; i++) {
            b.append(upTo(most)).append(r.nextBoolean() ? " " : "\n ");
        }
        if (r.nextInt(6) == 0) {
            return damaged(b);
        }
        return b.toString();
    }

    private static void lay(TinString x, Reference y, String t) {
        both("end(0)", x.end(0), y.end(0));
        String s = t.length() > 900 ? t.substring(0, 900) : t;
        for (int at = 0; at < s.length(); at += 20) {
            int[] v = new int[5];
            for (int i = 0; i < 20; i++) {
                int c = at + i < s.length() ? s.charAt(at + i) : ' ';
                v[i / 4] |= (c & 255) << (24 - 8 * (i % 4));
            }
            both("feed", x.feed(v[0], v[1], v[2], v[3], v[4]), y.feed(v));
        }
        both("end(length)", x.end(s.length()), y.end(s.length()));
    }

    private static void both(String call, long got, long want) {
        check.due(call, got, want);
    }

    private static void street(TinString x, Reference y) {
        lay(x, y, text());
        both("street()", x.street(), y.street());
        both("fault(0)", x.fault(0), y.fault(0));
        both("fault(1)", x.fault(1), y.fault(1));
        both("count(6)", x.count(6), y.count(6));
    }

    private static void look(TinString x, Reference y) {
        int a = about(30);
        both("told " + a, x.told(a), y.told(a));
        int k = about(3), i = about(5), b = about(3);
        both("band", x.band(k, i, b), y.band(k, i, b));
        a = about(6);
        both("count " + a, x.count(a), y.count(a));
        a = about(1);
        both("fault", x.fault(a), y.fault(a));
    }

    /** Mostly one that the stuff bears. */
    private static int pull(TinString x, int s) {
        int bears = x.told(10 + s) * (100 - x.told(6)) / 100 - x.told(7);
        return bears < 1 || r.nextInt(6) == 0 ? about(99) : 1 + r.nextInt(bears);
    }

    private static void line(TinString x, Reference y) {
        int stuffs = x.told(0) - 1, tins = x.told(1) - 1;
        int s = about(stuffs), t = about(tins), yd = about(r.nextInt(4) == 0 ? 400 : 30), p = pull(x, s);
        both("line", x.line(s, t, yd, p), y.line(s, t, yd, p));
        if (r.nextInt(3) == 0) {
            int l = about(x.told(5) - 1);
            both("bend " + l, x.bend(l), y.bend(l));
        }
        if (r.nextInt(3) == 0) {
            int h = about(100);
            both("tie " + h, x.tie(h), y.tie(h));
        }
        if (r.nextInt(6) == 0) {
            both("straighten", x.straighten(), y.straighten());
        }
        int what = about(4);
        both("bears " + what, x.bears(what), y.bears(what));
        int v = about(9), b = about(3), k = about(3), w = about(x.told(2) - 1);
        both("through", x.through(v, b), y.through(v, b));
        both("share", x.share(k, v, b), y.share(k, v, b));
        both("level", x.level(w, b), y.level(w, b));
    }

    private static void words(TinString x, Reference y) {
        int most = x.told(2) - 1;
        int a = about(most), b = about(most), set = about((1 << most + 1) - 1);
        both("table", x.table(a, b), y.table(a, b));
        both("among", x.among(set, a, b), y.among(set, a, b));
        int seed = r.nextInt(8) == 0 ? about(100) : r.nextInt() & Integer.MAX_VALUE;
        both("said", x.said(a, seed), y.said(a, seed));
        if (r.nextInt(4) == 0) {
            int w = r.nextBoolean() ? about(65536) : about(10), u = w > 0 && r.nextBoolean() ? upTo(w) : about(65536);
            both("longest " + a + " " + u + " " + w, x.longest(a, u, w), y.longest(a, u, w));
        }
        if (r.nextInt(3) == 0) {
            int k = about(1);
            both("best " + k, x.best(k), y.best(k));
            k = about(3);
            both("bestLoop " + k, x.bestLoop(k), y.bestLoop(k));
            k = about(most + 1);
            both("list " + k, x.list(k), y.list(k));
        }
    }

    private static void cells(TinString x, Reference y) {
        if (r.nextInt(12) == 0) {
            int n = about(r.nextBoolean() ? 40 : 5);
            both("stretch", x.stretch(n), y.stretch(n));
        }
        int i = about(x.count(4) - 1), lets = about(100), back = about(Math.max(0, Math.min(100, 100 - lets)));
        both("cell", x.cell(i, lets, back), y.cell(i, lets, back));
        int side = about(1), v = about(9999) * (r.nextBoolean() ? 1 : -1);
        both("send", x.send(side, v), y.send(side, v));
        int n = about(r.nextInt(5) == 0 ? 400 : 3);
        both("tick", x.tick(n), y.tick(n));
        i = about(x.count(4) - 1);
        n = about(3);
        both("goes", x.goes(i, n), y.goes(i, n));
        n = about(1);
        both("out", x.out(n), y.out(n));
        n = about(2);
        if (r.nextInt(3) == 0) {
            both("keep", x.keep(n), y.keep(n));
        } else if (r.nextInt(3) == 0) {
            both("take", x.take(n), y.take(n));
        }
    }

    private static void houses(TinString x, Reference y) {
        int most = x.told(3) - 1;
        int a = about(most), b = about(most);
        both("yards", x.yards(a, b), y.yards(a, b));
        if (r.nextInt(2) == 0) {
            both("wish", x.wish(a, b), y.wish(a, b));
        }
        if (r.nextInt(3) == 0) {
            int n = about(4), what = about(1);
            both("least", x.least(n, what), y.least(n, what));
        }
    }

    private static void rows(TinString x, Reference y) {
        lay(x, y, numbers());
        if (r.nextBoolean()) {
            both("taps", x.taps(), y.taps());
        } else {
            int sent = about(r.nextBoolean() ? 99999 : 100), came = about(Math.max(0, Math.min(99999, sent))), slack = about(r.nextBoolean() ? 99999 : 30);
            both("listened", x.listened(sent, came, slack), y.listened(sent, came, slack));
        }
        both("count(6)", x.count(6), y.count(6));
        int k = about(99), what = about(2);
        both("tapRow", x.tapRow(k, what), y.tapRow(k, what));
    }

    private static int step;

    private static void notes(TinString x, Reference y) {
        int most = x.told(2) - 1;
        int n = r.nextInt(6);
        for (int i = 0; i < n; i++) {
            step = r.nextInt(4) == 0 ? step + r.nextInt(60) : step;
            int told = r.nextInt(15) == 0 ? about(999) : step;
            int a = about(most), b = r.nextInt(3) > 0 ? a : about(most);
            both("write " + told, x.write(told, a, b), y.write(told, a, b));
            if (r.nextInt(4) == 0) {
                int k = about(x.count(1) - 1);
                b = about(most);
                both("right " + told, x.right(told, k, b), y.right(told, k, b));
            }
        }
        if (r.nextInt(3) == 0) {
            int known = r.nextBoolean() ? about(999) : step > 0 ? upTo(Math.min(999, step)) : 0;
            for (int what = 0; what < 3; what++) {
                both("fit " + known + " " + what, x.fit(known, what), y.fit(known, what));
            }
        }
    }

    public static void main(String[] args) {
        int runs = args.length > 0 ? Integer.parseInt(args[0]) : 250;
        int from = args.length > 1 ? Integer.parseInt(args[1]) : 0;
        for (int seed = from; seed < from + runs; seed++) {
            r = new Random(seed);
            TinString x = new TinString();
            Reference y = new Reference();
            boolean before = check.isRight();
            if (r.nextInt(6) > 0) {
                street(x, y);
                line(x, y);
            }
            step = 0;
            for (int i = 0; i < 40; i++) {
                switch (r.nextInt(14)) {
                    case 0 -> look(x, y);
                    case 1, 2, 3 -> line(x, y);
                    case 4, 5, 6 -> words(x, y);
                    case 7, 8 -> cells(x, y);
                    case 9, 10 -> houses(x, y);
                    case 11 -> rows(x, y);
                    case 12 -> notes(x, y);
                    default -> {
                        if (r.nextInt(6) == 0) {
                            street(x, y);
                            step = 0;
                        } else {
                            notes(x, y);
                        }
                    }
                }
            }
            if (before && !check.isRight()) {
                System.out.println("the first wrong answer is in the run of seed " + seed);
            }
        }
        check.end();
    }
}
