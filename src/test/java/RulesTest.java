import java.util.Random;
import java.util.regex.Matcher;
import java.util.regex.Pattern;

/** Promises 21 to 25: the tape, rules, and counts. */
public final class RulesTest {
    private static final Check C = new Check("RulesTest");

    private static final String NUMBER = "[0-9]{1,4}";
    private static final String TEST = "(?:weight|rank|cell|heat|snow)[=<>]-?" + NUMBER;
    private static final Pattern RULE = Pattern.compile("(?:thick|gap|stop) " + NUMBER
            + "(?: if " + TEST + "(?:(?: and " + TEST + "){0,2}|(?: or " + TEST + "){0,2}))?");

    public static void main(String[] args) {
        feed();
        wipe();
        rule();
        faults();
        randomFaults();
        said();
        force();
        joints();
        heatOfTheOpenHour();
        count();
        C.end();
    }

    private static void feed() {
        IceRoad x = new IceRoad();
        C.due("feed(0, -1)", x.feed(0, -1), IceRoad.BELOW);
        C.due("feed(0, 5)", x.feed(0, 5), IceRoad.NO);
        C.due("feed(0, 0)", x.feed(0, 0), 0);
        C.due("feed gap", x.feed(0x67617020, 4), 4);
        C.due("lowest bytes alone", x.feed(0x41414132, 1), 5);
        C.due("a rule", x.rule(0, 9), 0);
        x.load(1, 0, 0);
        C.due("gap 2", x.said(0, 0, 1), 2);
        for (int i = 1; i <= 19; i++) {
            C.due("feed " + i, x.feed(-1, 4), 4 * i);
        }
        C.due("three more", x.feed(-1, 3), 79);
        C.due("two are too many", x.feed(-1, 2), IceRoad.FULL);
        C.due("no ahead of full", x.feed(-1, 9), IceRoad.NO);
        C.due("one more", x.feed(-1, 1), 80);
        C.due("none more", x.feed(-1, 0), 80);
        C.due("full", x.feed(-1, 1), IceRoad.FULL);
        C.due("bytes", x.count(4), 80);
        C.due("fault at once", x.rule(0, 9), -10);
    }

    private static void wipe() {
        IceRoad x = new IceRoad();
        C.due("wipe of none", x.wipe(), 0);
        x.feed(0, 3);
        C.due("wipe", x.wipe(), 3);
        C.due("wiped", x.count(4), 0);
        C.due("wipe again", x.wipe(), 0);
    }

    private static void rule() {
        IceRoad x = new IceRoad();
        Check.type(x, "gap 1");
        C.due("from -1", x.rule(-1, 5), IceRoad.NO);
        C.due("to 100001", x.rule(0, 100001), IceRoad.NO);
        C.due("from beyond", x.rule(100001, 100002), IceRoad.NO);
        C.due("from is to", x.rule(7, 7), IceRoad.NO);
        C.due("from behind to", x.rule(8, 7), IceRoad.NO);
        C.due("the tape stays", x.count(4), 5);
        C.due("widest", x.rule(0, 100000), 0);
        C.due("the tape is empty", x.count(4), 0);
        C.due("fault of an empty tape", x.rule(0, 1), -10);
        for (int i = 1; i < 10; i++) {
            C.due("rule " + i, Check.ruleOf(x, "stop 0", 99999, 100000), i);
        }
        C.due("an eleventh", Check.ruleOf(x, "stop 0", 0, 1), IceRoad.FULL);
        C.due("the tape stays", x.count(4), 6);
        C.due("no ahead of full", x.rule(1, 1), IceRoad.NO);
        C.due("full ahead of fault", Check.ruleOf(x, "stop", 0, 1), IceRoad.FULL);
        C.due("rules", x.count(3), 10);
    }

    private static void fault(String text, int place) {
        IceRoad x = new IceRoad();
        Check.type(x, text);
        C.due("fault of '" + text + "'", x.rule(0, 9), -10 - place);
        C.due("the tape stays behind '" + text + "'", x.count(4), text.length());
        C.due("no rule by '" + text + "'", x.count(3), 0);
    }

    private static void faults() {
        fault("", 0);
        fault(" gap 1", 0);
        fault("x", 0);
        fault("thin 1", 3);
        fault("thick", 5);
        fault("thick1", 5);
        fault("thick  1", 6);
        fault("thick -1", 6);
        fault("thick ", 6);
        fault("snow 1", 1);
        fault("stop 12345", 9);
        fault("stop 1234 ", 10);
        fault("stop 1  if", 7);
        fault("stop 1 if", 9);
        fault("stop 1 if ", 10);
        fault("stop 1 or rank=1", 7);
        fault("stop 1 if ranc=1", 13);
        fault("stop 1 if rank", 14);
        fault("stop 1 if rank =1", 14);
        fault("stop 1 if rank!1", 14);
        fault("stop 1 if rank=", 15);
        fault("stop 1 if rank=x", 15);
        fault("stop 1 if rank=-", 16);
        fault("stop 1 if rank=--1", 16);
        fault("stop 1 if rank==1", 15);
        fault("stop 1 if rank<>1", 15);
        fault("stop 1 if rank=12345", 19);
        fault("stop 1 if rank=1 ", 17);
        fault("stop 1 if rank=1 if", 17);
        fault("stop 1 if rank=1 an", 19);
        fault("stop 1 if rank=1 and", 20);
        fault("stop 1 if rank=1 and ", 21);
        fault("stop 1 if rank=1 and cell=1 or cell=2", 28);
        fault("stop 1 if rank=1 or cell=1 and cell=2", 27);
        fault("gap 1 if rank=1 or cell=1 or cell=2 or cell=3", 35);
        fault("gap 1 if rank=1 or cell=1 or cell=2 ", 35);
        fault("gap 1 if rank=1 and cell=1 and cell=2x", 37);
        fault("GAP 1", 0);
        fault("gap 1\u00e9", 5);
        fault("gap\u00001", 3);
    }

    /** The first place at which the text so far begins no rule, as the library's patterns tell it; -1: a rule. */
    static int faultByPattern(String text) {
        for (int end = 1; end <= text.length(); end++) {
            Matcher matcher = RULE.matcher(text.substring(0, end));
            if (!matcher.matches() && !matcher.hitEnd()) {
                return end - 1;
            }
        }
        return RULE.matcher(text).matches() ? -1 : text.length();
    }

    static String randomText(Random random) {
        String[] keys = {"thick", "gap", "stop"};
        String[] fields = {"weight", "rank", "cell", "heat", "snow"};
        String[] joints = {" and ", " or "};
        StringBuilder text = new StringBuilder(keys[random.nextInt(3)]);
        text.append(' ').append(random.nextInt(2) == 0 ? random.nextInt(10) : random.nextInt(12000));
        int tests = random.nextInt(5);
        int joint = random.nextInt(2);
        for (int i = 0; i < tests; i++) {
            text.append(i == 0 ? " if " : joints[random.nextInt(12) == 0 ? 1 - joint : joint]);
            text.append(fields[random.nextInt(5)]).append("=<>".charAt(random.nextInt(3)));
            text.append(random.nextInt(3) == 0 ? "-" : "").append(random.nextInt(2) == 0 ? 7 : random.nextInt(11000));
        }
        String letters = " -=<>0123456789thickgapstopweightrankcellheatsnowandorif";
        if (random.nextInt(2) == 0) {
            int at = random.nextInt(text.length());
            char sign = letters.charAt(random.nextInt(letters.length()));
            switch (random.nextInt(4)) {
                case 0: text.setCharAt(at, sign); break;
                case 1: text.deleteCharAt(at); break;
                case 2: text.insert(at, sign); break;
                default: text.setLength(at);
            }
        }
        text.setLength(Math.min(80, text.length()));
        return text.toString();
    }

    private static void randomFaults() {
        Random random = new Random(20261118);
        int good = 0;
        for (int i = 0; i < 20000; i++) {
            String text = randomText(random);
            IceRoad x = new IceRoad();
            Check.type(x, text);
            int place = faultByPattern(text);
            good += place < 0 ? 1 : 0;
            C.due("rule '" + text + "'", x.rule(0, 9), place < 0 ? 0 : -10 - place);
        }
        C.due("both sorts of texts were tried", good > 2000 && good < 18000 ? 1 : 0, 1);
    }

    private static void said() {
        IceRoad x = new IceRoad();
        x.load(50, 4, 0);
        C.due("load beyond", x.said(1, 0, 0), IceRoad.BEYOND);
        C.due("load below", x.said(-1, 0, 0), IceRoad.BEYOND);
        C.due("cell beyond", x.said(0, 2, 9), IceRoad.BEYOND);
        C.due("cell below", x.said(0, -1, 0), IceRoad.BEYOND);
        C.due("key 3", x.said(0, 0, 3), IceRoad.NO);
        C.due("key -1", x.said(0, 0, -1), IceRoad.NO);
        C.due("thick by none", x.said(0, 0, 0), 0);
        C.due("gap by none", x.said(0, 0, 1), 1);
        C.due("stop by none", x.said(0, 0, 2), 0);
        Check.ruleOf(x, "thick 0900", 0, 9);
        C.due("thick 0900", x.said(0, 0, 0), 900);
        Check.ruleOf(x, "thick 9999 if weight=50", 0, 9);
        C.due("weight=50", x.said(0, 0, 0), 9999);
        Check.ruleOf(x, "thick 2 if weight>50", 0, 9);
        C.due("weight>50 not", x.said(0, 0, 0), 9999);
        Check.ruleOf(x, "thick 3 if weight<51", 0, 9);
        C.due("the greatest number, not the greatest thick", x.said(0, 0, 0), 3);
        Check.ruleOf(x, "gap 7 if cell=1", 0, 9);
        C.due("cell=1 of 0", x.said(0, 0, 1), 1);
        C.due("cell=1 of 1", x.said(0, 1, 1), 7);
        Check.ruleOf(x, "gap 8 if rank>3", 0, 9);
        C.due("rank>3", x.said(0, 0, 1), 8);
        Check.ruleOf(x, "stop 5 if snow<10", 0, 9);
        C.due("snow<10", x.said(0, 0, 2), 5);
        x.snow(10);
        C.due("snow=10", x.said(0, 0, 2), 0);
        x.sweep(1);
        C.due("snow of that cell", x.said(0, 1, 2), 5);
        C.due("thick is not touched", x.said(0, 1, 0), 3);
        x.turn(0);
        C.due("of a load turned back, too", x.said(0, 0, 1), 8);
    }

    private static void force() {
        IceRoad x = new IceRoad();
        x.load(1, 0, 0);
        x.turn(0);
        Check.ruleOf(x, "gap 5", 2, 4);
        int[] due = {1, 1, 5, 5, 1};
        for (int hour = 0; hour < due.length; hour++) {
            C.due("in hour " + hour, x.said(0, 0, 1), due[hour]);
            x.run(1);
        }
    }

    private static void joints() {
        IceRoad x = new IceRoad();
        x.load(50, 4, 0);
        x.turn(0);
        String[] tests = {
            "weight=50 and rank=4 and cell=0", "weight=50 and rank=4 and cell=1", "weight=1 and rank=4",
            "weight=50 and rank=5", "weight=1 or rank=4", "weight=50 or rank=9 or cell=9",
            "weight=1 or rank=9 or cell=0", "weight=1 or rank=9 or cell=9", "heat=-100", "heat<-100",
            "heat>-101", "snow=0", "snow=-0", "snow>-1", "cell<0", "rank<5", "rank>4",
        };
        int[] due = {1, 0, 0, 0, 1, 1, 1, 0, 1, 0, 1, 1, 1, 1, 0, 1, 0};
        for (int i = 0; i < tests.length; i++) {
            IceRoad y = new IceRoad();
            y.load(50, 4, 0);
            C.due("rule " + tests[i], Check.ruleOf(y, "stop 1 if " + tests[i], 0, 1), 0);
            C.due("stop 1 if " + tests[i], y.said(0, 0, 2), due[i]);
            C.due("why by " + tests[i], y.why(0, 0), due[i]);
        }
        // a text with a fault leaves no trace in the rule that comes behind it
        Check.ruleOf(x, "stop 1 if rank=1 or cell=7 or cell=x", 0, 9);
        C.due("rule behind a fault", Check.ruleOf(x, "stop 1 if rank=4 and weight=50", 0, 9), 0);
        C.due("it holds", x.said(0, 0, 2), 1);
        Check.ruleOf(x, "stop 0 if rank=1 or cell=0 or", 0, 9);
        C.due("plain behind a fault", Check.ruleOf(x, "stop 2", 0, 9), 1);
        C.due("it holds", x.said(0, 0, 2), 2);
    }

    private static void heatOfTheOpenHour() {
        IceRoad x = new IceRoad();
        x.thick(0, 2000);
        x.thick(1, 2000);
        x.weather(0, 0);
        x.weather(1, 50);
        x.weather(2, -10);
        Check.ruleOf(x, "stop 1 if heat>-10", 0, 1000);
        x.load(1, 0, 0);
        x.run(1);
        C.due("hour 0 stops", x.of(0, 3), 0);
        C.due("hour 1 is open", x.why(0, 0), 1);
        x.run(1);
        C.due("hour 1 stops", x.of(0, 3), 0);
        C.due("hour 2 is open", x.why(0, 0), 0);
        x.run(1);
        C.due("hour 2 lets it on", x.of(0, 4), 0);
    }

    private static void count() {
        IceRoad x = new IceRoad();
        C.due("count(-1)", x.count(-1), IceRoad.NO);
        C.due("count(11)", x.count(11), IceRoad.NO);
        x.cell(20, 1, false);
        x.thick(0, 2000);
        x.thick(2, 2000);
        x.thick(1, 500);
        x.weather(0, 0);
        x.load(20, 9, 0);
        x.load(30, 8, 0);
        x.load(9, 7, 0);
        x.load(8, 6, 0);
        x.load(7, 0, 0);
        x.turn(4);
        for (int i = 0; i < 4; i++) {
            x.load(3, 0, 0);
        }
        Check.ruleOf(x, "gap 1", 0, 9);
        x.feed(0, 2);
        x.run(4);
        int[] due = {4, 3, 9, 1, 2, 4, 2, 1, 1, 1, 20};
        for (int what = 0; what < due.length; what++) {
            C.due("count(" + what + ")", x.count(what), due[what]);
        }
    }
}
