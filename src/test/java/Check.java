/** What the tests share: counting wrong answers, and laying a text on THE TAPE. */
final class Check {
    private int wrong;
    private int asked;

    void due(String call, long got, long want) {
        asked++;
        if (got != want) {
            wrong++;
            if (wrong <= 50) {
                System.out.println(call + " answered " + got + ", due is " + want);
            }
        }
    }

    boolean isRight() {
        return wrong == 0;
    }

    void end() {
        System.out.println(asked + " answers, " + wrong + " wrong");
        if (wrong != 0 || asked == 0) {
            System.exit(1);
        }
    }

    /** THE TAPE becomes just this text. */
    static int lay(TinString x, String text) {
        x.end(0);
        return add(x, text);
    }

    /** The text comes behind what THE TAPE has. */
    static int add(TinString x, String text) {
        int before = x.count(6);
        for (int at = 0; at < text.length(); at += 20) {
            int[] v = new int[5];
            for (int i = 0; i < 20; i++) {
                int c = at + i < text.length() ? text.charAt(at + i) : ' ';
                v[i / 4] |= (c & 255) << (24 - 8 * (i % 4));
            }
            if (x.feed(v[0], v[1], v[2], v[3], v[4]) == TinString.FULL) {
                return TinString.FULL;
            }
        }
        return x.end(before + text.length());
    }

    static int street(TinString x, String text) {
        lay(x, text);
        return x.street();
    }

    static TinString with(String text) {
        TinString x = new TinString();
        if (street(x, text) < 0) {
            throw new IllegalStateException("no street: " + text);
        }
        return x;
    }
}
