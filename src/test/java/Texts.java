import java.util.ArrayList;
import java.util.List;
import java.util.Random;

/** Texts made by a seeded row of numbers, for the tests: nets, rules, orders, right ones and spoiled ones. */
final class Texts {
    static final String[] ACTS = {"open", "close", "earth", "free", "tag", "untag"};
    private static final String[] WORDS = ("bar switch line machine load open closed no if and or not then close earth "
            + "free tag untag it from to tagged live earthed joined lost over loops above below is ; ( ) 0 7 100 999999 "
            + "1000000 000001 b0 b1 s0 l0 m0 p0 longname9 ninebytes 9a A # zz").split(" ");

    private final Random random;
    int bars;
    int switches;
    int lines;
    int machines;
    int loads;

    Texts(Random random) {
        this.random = random;
    }

    int upTo(int n) {
        return random.nextInt(n + 1);
    }

    String pick(String... of) {
        return of[random.nextInt(of.length)];
    }

    /** A net; size 0 the smallest, 2 the greatest. */
    String net(int size) {
        int wide = size == 0 ? 5 : size == 1 ? 9 : 16;
        bars = 1 + upTo(wide - 1);
        switches = bars < 2 ? 0 : upTo(size == 0 ? 5 : size == 1 ? 12 : 24);
        lines = bars < 2 ? 0 : upTo(size == 0 ? 5 : size == 1 ? 10 : 20);
        machines = upTo(size == 0 ? 3 : 6);
        loads = upTo(size == 0 ? 3 : 12);
        boolean narrow = random.nextBoolean();
        List<String> parts = new ArrayList<>();
        for (int i = 0; i < bars; i++) {
            parts.add("bar b" + i + " ;");
        }
        for (int i = 0; i < switches; i++) {
            parts.add("switch s" + i + two() + pick(" open ", " closed ") + (1 + upTo(60)) + ";");
        }
        for (int i = 0; i < lines; i++) {
            int x = narrow ? 1 + upTo(5) : 1 + upTo(98);
            int z = narrow ? 1 + upTo(9) : 1 + upTo(298);
            parts.add("line l" + i + two() + " " + x + " " + z + " " + (narrow ? upTo(60) : upTo(400)) + ";");
        }
        for (int i = 0; i < machines; i++) {
            int lo = random.nextInt(3) == 0 ? upTo(40) : 0;
            int hi = lo + upTo(200);
            int c = upTo(narrow ? 4 : 20);
            parts.add("machine m" + i + " b" + upTo(bars - 1) + " " + (1 + upTo(narrow ? 5 : 98)) + " "
                    + (random.nextInt(3) == 0 ? 0 : 1 + upTo(narrow ? 5 : 298)) + " " + lo + " " + hi + " " + c + " "
                    + upTo(150) + " " + (c + upTo(3)) + " " + (random.nextInt(3) == 0 ? 0 : upTo(9)) + ";");
        }
        for (int i = 0; i < loads; i++) {
            parts.add("load p" + i + " b" + upTo(bars - 1) + " " + upTo(narrow ? 40 : 90) + ";");
        }
        return String.join(pick(" ", "\n", "", "  "), parts);
    }

    private String two() {
        int a = upTo(bars - 1);
        int b = (a + 1 + upTo(bars - 2)) % bars;
        return " b" + a + " b" + b;
    }

    String rules() {
        StringBuilder t = new StringBuilder();
        int n = random.nextInt(20) == 0 ? 13 : upTo(4);
        for (int i = 0; i < n; i++) {
            String act = pick(ACTS);
            t.append("no ").append(act).append(" if ").append(any(act.equals("earth") || act.equals("free"), 0))
                    .append(pick(";", " ;", " ;\n"));
        }
        return t.toString();
    }

    private String any(boolean ofBar, int depth) {
        StringBuilder t = new StringBuilder(one(ofBar, depth));
        int n = random.nextInt(3) == 0 ? 1 + upTo(2) : 0;
        for (int i = 0; i < n; i++) {
            t.append(pick(" and ", " or ")).append(one(ofBar, depth));
        }
        return t.toString();
    }

    private String one(boolean ofBar, int depth) {
        String not = random.nextInt(4) == 0 ? "not " : "";
        if (random.nextInt(4) == 0 && depth < 9) {
            return not + "(" + any(ofBar, depth + 1) + " )";
        }
        return not + (random.nextInt(3) == 0 ? "then " : "") + asked(ofBar);
    }

    private String asked(boolean ofBar) {
        switch (upTo(7)) {
            case 0:
                return "closed " + sw(ofBar);
            case 1:
                return "tagged " + sw(ofBar);
            case 2:
                return "live " + bar(ofBar);
            case 3:
                return "earthed " + bar(ofBar);
            case 4:
                return "joined " + bar(ofBar) + " " + bar(ofBar);
            case 5:
                return "lost " + pick("above", "below", "is") + " " + upTo(200);
            case 6:
                return "over " + pick("above", "below", "is") + " " + (random.nextInt(4) == 0 ? 100 : upTo(2));
            default:
                return "loops " + pick("above", "below", "is") + " " + upTo(4);
        }
    }

    private String sw(boolean ofBar) {
        return !ofBar && random.nextBoolean() || switches == 0 ? "it" : "s" + upTo(switches - 1);
    }

    private String bar(boolean ofBar) {
        if (random.nextBoolean()) {
            return ofBar ? "it" : pick("from", "to");
        }
        return "b" + upTo(bars - 1);
    }

    String order() {
        StringBuilder t = new StringBuilder();
        int n = random.nextInt(20) == 0 ? 25 : upTo(6);
        for (int i = 0; i < n; i++) {
            String act = pick(ACTS);
            boolean ofBar = act.equals("earth") || act.equals("free") || switches == 0;
            t.append(switches == 0 ? "earth" : act).append(ofBar ? " b" + upTo(bars - 1) : " s" + upTo(switches - 1))
                    .append(pick(";", " ;\n", " ; "));
        }
        return t.toString();
    }

    /** A text with one place changed. */
    String spoiled(String text) {
        StringBuilder t = new StringBuilder(text);
        int at = upTo(text.length());
        switch (upTo(4)) {
            case 0:
                t.setLength(at);
                break;
            case 1:
                t.insert(at, " " + pick(WORDS) + " ");
                break;
            case 2:
                t.insert(at, (char) upTo(255));
                break;
            case 3:
                t.delete(at, Math.min(text.length(), at + 1 + upTo(8)));
                break;
            default:
                String[] words = text.split("(?<=[ ;])");
                int k = upTo(words.length - 1);
                words[k] = " " + pick(WORDS) + " ";
                return String.join("", words);
        }
        return t.toString();
    }
}
