/** Counts what is not as due, for tests written by hand. */
final class Check {
    static final String INDEX = "IndexOutOfBoundsException";
    static final String ARGUMENT = "IllegalArgumentException";
    static final String STATE = "IllegalStateException";

    private static int made;
    private static int wrong;
    private static String about = "";

    private Check() {
    }

    /** Whether the program is built as README.md tells: what only that way asks for is not asked of another one. */
    static boolean isBuiltWith(String inside) {
        for (Class<?> c : GridHouse.class.getDeclaredClasses()) {
            if (c.getSimpleName().equals(inside)) {
                return true;
            }
        }
        return false;
    }

    static void promise(int n) {
        about = "promise " + n;
    }

    /** The sentence of the document that the answers behind it are due by. */
    static void sentence(String words) {
        about = words;
    }

    static void is(String what, long got, long due) {
        made++;
        if (got != due) {
            wrong++;
            System.out.println(about + ": " + what + " answered " + got + ", due is " + due);
        }
    }

    static void is(String what, boolean got, boolean due) {
        is(what, got ? 1 : 0, due ? 1 : 0);
    }

    static void refuses(String what, String due, Pair.Deed call) {
        made++;
        String got = "nothing";
        try {
            call.go();
        } catch (RuntimeException e) {
            got = e.getClass().getSimpleName();
        }
        if (!got.equals(due)) {
            wrong++;
            System.out.println(about + ": " + what + " throws " + got + ", due is " + due);
        }
    }

    /** The number in hand as a fraction, without sign. */
    static void inHand(String what, GridHouse x, String due) {
        made++;
        StringBuilder t = new StringBuilder();
        for (int part = 0; part < 2; part++) {
            for (int i = x.figures(part) - 1; i >= 0; i--) {
                t.append(x.figure(part, i));
            }
            t.append(part == 0 ? "/" : "");
        }
        if (!t.toString().equals(due)) {
            wrong++;
            System.out.println(about + ": " + what + " put " + t + " in hand, due is " + due);
        }
    }

    /** A call that makes a number: its sign and the number. */
    static void makes(String what, GridHouse x, int sign, int due, String number) {
        is(what, sign, due);
        inHand(what, x, number);
    }

    static void feed(GridHouse x, String text) {
        int before = x.count(9);
        for (int at = 0; at < text.length(); at += 20) {
            int[] v = new int[5];
            for (int i = 0; i < 20; i++) {
                int b = at + i < text.length() ? text.charAt(at + i) & 255 : 32;
                v[i / 4] = v[i / 4] << 8 | b;
            }
            x.feed(v[0], v[1], v[2], v[3], v[4]);
        }
        x.end(before + text.length());
    }

    static int net(GridHouse x, String text) {
        feed(x, text);
        return x.net();
    }

    static GridHouse house(String text) {
        GridHouse x = new GridHouse();
        feed(x, text);
        is("net " + text, x.net() >= 0, true);
        return x;
    }

    static int rules(GridHouse x, String text) {
        feed(x, text);
        return x.rules();
    }

    static int order(GridHouse x, String text) {
        feed(x, text);
        return x.order();
    }

    static int find(GridHouse x, String text) {
        feed(x, text);
        return x.find();
    }

    static void close(String name) {
        System.out.println(wrong == 0 ? name + ": all " + made + " answers are as due"
                : name + ": " + wrong + " of " + made + " answers are not as due");
        if (wrong != 0) {
            System.exit(1);
        }
    }
}
