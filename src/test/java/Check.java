import java.util.List;

/** Compares answers with those that are due, and ends a test with exit code 1 if one was wrong. */
final class Check {
    private final String name;
    private int seen = 0;
    private int wrong = 0;

    Check(String name) {
        this.name = name;
    }

    void due(String call, long got, long want) {
        seen++;
        if (got != want) {
            wrong++;
            System.out.println(name + ": " + call + " answered " + got + ", due is " + want);
        }
    }

    /** Tells the first line alone that is another one: those behind it mostly follow from it. */
    void same(String when, List<String> got, List<String> want) {
        seen++;
        for (int i = 0; i < Math.max(got.size(), want.size()); i++) {
            String a = i < got.size() ? got.get(i) : "nothing";
            String b = i < want.size() ? want.get(i) : "nothing";
            if (!a.equals(b)) {
                wrong++;
                System.out.println(name + ": " + when + " was seen " + a + ", due is " + b);
                return;
            }
        }
    }

    /** Feeds a text to the tape, four bytes at a time. */
    static void type(IceRoad x, String text) {
        for (int at = 0; at < text.length(); at += 4) {
            int n = Math.min(4, text.length() - at);
            int bytes = 0;
            for (int k = 0; k < n; k++) {
                bytes = (bytes << 8) | (text.charAt(at + k) & 255);
            }
            x.feed(bytes, n);
        }
    }

    /** Types a text on an empty tape and makes it a rule. */
    static int ruleOf(IceRoad x, String text, int from, int to) {
        x.wipe();
        type(x, text);
        return x.rule(from, to);
    }

    void end() {
        System.out.println(name + ": " + seen + " answers, " + wrong + " wrong");
        if (wrong != 0) {
            System.exit(1);
        }
    }
}
