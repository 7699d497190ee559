/** Promises 21 to 25, and ==== 2: the last values that are taken, the first that are refused, and the FAULTS. */
public final class RulesEdgesTest {
    private static final Check C = new Check("RulesEdgesTest");
    private static final Scenes S = new Scenes(C);
    private static final int MIN = Integer.MIN_VALUE;
    private static final int MAX = Integer.MAX_VALUE;
    private static final int LAST = 100000;
    private static final String LONGEST = "thick 1234 if weight=-1234 and weight<-1234 and weight>-1234";

    public static void main(String[] args) {
        feedCounts();
        feedBytes();
        feedFull();
        wipe();
        ruleHours();
        ruleFull();
        ruleFaultChangesNothing();
        aRuleEmptiesTheTape();
        keys();
        digits();
        tests();
        threeTestsAtMost();
        allAlike();
        endsTooEarly();
        longTapes();
        eachByteBehindEachBeginning();
        inForce();
        inForceAtTheLastHour();
        greatestNumber();
        testsAtTheirLimits();
        letByThick();
        letByGap();
        saidBounds();
        countBounds();
        C.end();
    }

    /** "(n 0 .. 4)"; "BELOW, NO: n". */
    private static void feedCounts() {
        S.changesNothing("feed(-1, 0)", Scenes::busy, x -> x.feed(-1, 0), 12);
        IceRoad x = new IceRoad();
        C.due("feed(0, 4)", x.feed(0, 4), 4);
        C.due("feed(0, 1)", x.feed(0, 1), 5);
        for (int n : new int[] {-1, -4, MIN}) {
            S.refused("feed(0, " + n + ")", Scenes::busy, y -> y.feed(0, n), IceRoad.BELOW);
        }
        for (int n : new int[] {5, 8, MAX}) {
            S.refused("feed(0, " + n + ")", Scenes::busy, y -> y.feed(0, n), IceRoad.NO);
        }
    }

    /** "the n lowest bytes of a number .., the highest of these first". */
    private static void feedBytes() {
        int number = 'g' << 24 | 'a' << 16 | 'p' << 8 | ' ';
        int[][] parts = {{4}, {1, 3}, {2, 2}, {3, 1}, {1, 1, 1, 1}, {0, 4, 0}};
        for (int[] sizes : parts) {
            IceRoad x = new IceRoad();
            int left = 4;
            for (int n : sizes) {
                left -= n;
                x.feed(number >> 8 * left, n);
            }
            x.feed('7', 1);
            C.due("rule of " + sizes.length + " parts", x.rule(0, 1), 0);
            x.load(1, 0, 0);
            C.due("gap", x.said(0, 0, 1), 7);
        }
        for (int high : new int[] {0xff, 0x80, 0x7f, 0}) {
            IceRoad x = new IceRoad();
            x.feed(high << 24 | 'a' << 16, 4);
            C.due("the highest byte " + high + " is first", x.rule(0, 1), -10);
            x.wipe();
            x.feed(high << 24 | 'g' << 16 | 'a' << 8 | 'p', 3);
            C.due("the highest byte " + high + " isn't taken", x.rule(0, 1), -13);
        }
    }

    /** "THE TAPE (bytes, 80 at most)"; "FULL", and BELOW and NO ahead of it. */
    private static void feedFull() {
        for (int n = 0; n <= 4; n++) {
            int bytes = n;
            IceRoad x = new IceRoad();
            Scenes.tapeOf(80 - n).accept(x);
            C.due("to 80 by " + n, x.feed(-1, n), 80);
            C.due("80 bytes", x.count(4), 80);
            S.changesNothing("none more than 80", Scenes.tapeOf(80), y -> y.feed(-1, 0), 80);
            if (n > 0) {
                S.refused("81 by " + n, Scenes.tapeOf(81 - n), y -> y.feed(-1, bytes), IceRoad.FULL);
                S.refused("80 and " + n, Scenes.tapeOf(80), y -> y.feed(-1, bytes), IceRoad.FULL);
            }
        }
        S.refused("full and -1", Scenes.tapeOf(80), x -> x.feed(0, -1), IceRoad.BELOW);
        S.refused("full and 5", Scenes.tapeOf(80), x -> x.feed(0, 5), IceRoad.NO);
        IceRoad x = new IceRoad();
        Scenes.tapeOf(80).accept(x);
        C.due("wipe of 80", x.wipe(), 80);
        C.due("room again", x.feed(-1, 4), 4);
    }

    /** "how many bytes it had": none of an empty one. */
    private static void wipe() {
        S.changesNothing("wipe of an empty tape", Scenes::bare, IceRoad::wipe, 0);
        IceRoad x = new IceRoad();
        Scenes.busy(x);
        C.due("wipe", x.wipe(), 12);
        C.due("wiped", x.wipe(), 0);
        C.due("an empty tape ends too early", x.rule(0, 1), -10);
        C.due("rules stay", x.count(3), 2);
    }

    private static void onTape(IceRoad x, String text) {
        x.load(50, 5, 0);
        Check.type(x, text);
    }

    /** "in force from an hour on, ahead of another one (0 .. 100000)"; "NO: hours (from is not ahead of to, ..)". */
    private static void ruleHours() {
        int[][] taken = {{0, 1}, {0, LAST}, {LAST - 1, LAST}, {1, 2}};
        for (int[] hours : taken) {
            IceRoad x = new IceRoad();
            onTape(x, "gap 7");
            C.due("rule(" + hours[0] + ", " + hours[1] + ")", x.rule(hours[0], hours[1]), 0);
        }
        int[][] refused = {{0, 0}, {1, 1}, {LAST, LAST}, {1, 0}, {LAST, 0}, {LAST, LAST - 1}, {-1, 0}, {-1, 1},
            {-1, LAST}, {0, LAST + 1}, {LAST, LAST + 1}, {LAST + 1, LAST + 2}, {0, -1}, {-2, -1}, {MIN, MAX},
            {0, MAX}, {MIN, 1}, {MAX, MIN}, {MAX, MAX}};
        for (int[] hours : refused) {
            String call = "rule(" + hours[0] + ", " + hours[1] + ")";
            S.refused(call, x -> onTape(x, "gap 7"), x -> x.rule(hours[0], hours[1]), IceRoad.NO);
            S.refused(call + " of a fault", Scenes::busy, x -> x.rule(hours[0], hours[1]), IceRoad.NO);
        }
    }

    /** "RULES 0 .. 9"; "FULL": behind NO and ahead of the FAULT. */
    private static void ruleFull() {
        IceRoad x = new IceRoad();
        x.load(5, 5, 0);
        for (int i = 0; i < 10; i++) {
            C.due("rule " + i, Check.ruleOf(x, "gap " + (i + 2), 0, 100), i);
            C.due("it says", x.said(0, 0, 1), i + 2);
        }
        S.refused("an eleventh, with a fault", Scenes::allRules, y -> y.rule(0, 1), IceRoad.FULL);
        S.refused("an eleventh in the busy scene", Scenes::busyAllRules, y -> y.rule(0, 1), IceRoad.FULL);
        S.refused("an eleventh, without one", y -> {
            Scenes.allRules(y);
            Check.type(y, "nk=1");
        }, y -> y.rule(0, 1), IceRoad.FULL);
        S.refused("an eleventh of no text", y -> {
            Scenes.allRules(y);
            y.wipe();
        }, y -> y.rule(0, 1), IceRoad.FULL);
        S.refused("an eleventh from 1 to 1", Scenes::allRules, y -> y.rule(1, 1), IceRoad.NO);
        S.refused("an eleventh to 100001", Scenes::allRules, y -> y.rule(0, LAST + 1), IceRoad.NO);
    }

    /** "-10 less the FAULT (THE TAPE stays)": and it is none of the refusals that status() tells of. */
    private static void ruleFaultChangesNothing() {
        S.changesNothing("the fault of the busy scene", Scenes::busy, x -> x.rule(0, 9), -22);
        S.changesNothing("the fault of an empty tape", Scenes::bare, x -> x.rule(0, 9), -10);
        S.changesNothing("the fault of 80 bytes", Scenes.tapeOf(80), x -> x.rule(0, 9), -70);
        IceRoad x = new IceRoad();
        onTape(x, "stop 1 if rank=5 or rank=6 or rank");
        C.due("a fault", x.rule(0, 9), -10 - 34);
        C.due("once more", x.rule(0, 9), -10 - 34);
        x.feed('>' << 8 | '9', 2);
        C.due("the tape goes on", x.rule(0, 9), 0);
        C.due("it holds", x.said(0, 0, 2), 1);
        // a text with a fault leaves nothing in the rule that comes behind it
        IceRoad y = new IceRoad();
        onTape(y, "stop 1 if rank=1 or rank=2 or rank=");
        C.due("a fault", y.rule(0, 9), -10 - 35);
        C.due("a plain one behind it", Check.ruleOf(y, "gap 4", 0, 9), 0);
        C.due("it holds for all", y.said(0, 0, 1), 4);
        C.due("nothing stops", y.said(0, 0, 2), 0);
    }

    /** "THE TAPE is a RULE: its number; THE TAPE is empty then". */
    private static void aRuleEmptiesTheTape() {
        IceRoad x = new IceRoad();
        onTape(x, "gap 7");
        C.due("rule", x.rule(0, 9), 0);
        C.due("the tape is empty", x.count(4), 0);
        C.due("nothing to wipe", x.wipe(), 0);
        C.due("it isn't read twice", x.rule(0, 9), -10);
        Check.type(x, "gap 8");
        C.due("the next", x.rule(0, 9), 1);
        C.due("it says", x.said(0, 0, 1), 8);
    }

    /** The text alone on a tape: a rule (fault -1), or its fault. */
    private static void text(String text, int fault) {
        IceRoad x = new IceRoad();
        Check.type(x, text);
        C.due("rule of '" + text + "'", x.rule(0, 9), fault < 0 ? 0 : -10 - fault);
        C.due("bytes behind '" + text + "'", x.count(4), fault < 0 ? 0 : text.length());
    }

    /** "KEY: thick gap stop", and a blank behind it. */
    private static void keys() {
        text("thick 1", -1);
        text("gap 1", -1);
        text("stop 1", -1);
        text("Thick 1", 0);
        text("thicc 1", 4);
        text("thickk 1", 5);
        text("gaq 1", 2);
        text("gapp 1", 3);
        text("step 1", 2);
        text("stopp 1", 4);
        text("tgap 1", 1);
        text("weight 1", 0);
        text("if 1", 0);
        text("1", 0);
        text("gap\t1", 3);
        text("gap1", 3);
        text("gap  1", 4);
        text(" gap 1", 0);
    }

    /** "NUMBER: 1 to 4 digits". */
    private static void digits() {
        text("gap ", 4);
        text("gap x", 4);
        text("gap /", 4);
        text("gap :", 4);
        text("gap -1", 4);
        text("gap 0", -1);
        text("gap 9", -1);
        text("gap 12", -1);
        text("gap 123", -1);
        text("gap 1234", -1);
        text("gap 0000", -1);
        text("gap 9999", -1);
        text("gap 12345", 8);
        text("gap 00001", 8);
        text("gap 1.5", 5);
        text("gap 1x", 5);
        String[] numbers = {"0", "00", "0000", "9", "0009", "10", "0999", "9999"};
        int[] due = {0, 0, 0, 9, 9, 10, 999, 9999};
        for (int i = 0; i < numbers.length; i++) {
            IceRoad x = new IceRoad();
            onTape(x, "thick " + numbers[i]);
            x.rule(0, 9);
            C.due("thick " + numbers[i], x.said(0, 0, 0), due[i]);
        }
    }

    /** "TEST: FIELD, one of = < >, perhaps -, NUMBER, without blanks; FIELD: weight rank cell heat snow". */
    private static void tests() {
        for (String field : new String[] {"weight", "rank", "cell", "heat", "snow"}) {
            int end = 9 + field.length();
            String start = "gap 1 if " + field;
            for (String sign : new String[] {"=", "<", ">"}) {
                text(start + sign + "0", -1);
                text(start + sign + "-0", -1);
                text(start + sign + "9999", -1);
                text(start + sign + "-9999", -1);
                text(start + sign + "10000", end + 5);
                text(start + sign + "-10000", end + 6);
                text(start + sign, end + 1);
                text(start + sign + "-", end + 2);
                text(start + sign + "--1", end + 2);
                text(start + sign + "+1", end + 1);
                text(start + sign + " 1", end + 1);
                text(start + sign + "- 1", end + 2);
                text(start + sign + "=1", end + 1);
            }
            text(start, end);
            text(start + " =1", end);
            text(start + "!1", end);
            text(start + "1", end);
            text(start + "-1", end);
            text(start + "s=1", end);
            text(start.substring(0, end - 1), end - 1);
            text(start.substring(0, end - 1) + "=1", end - 1);
        }
        text("gap 1 if way=1", 10);
        text("gap 1 if thick=1", 9);
        text("gap 1 if =1", 9);
        text("gap 1 if 1=rank", 9);
        text("gap 1 if  rank=1", 9);
        text("gap 1  if rank=1", 6);
        text("gap 1 If rank=1", 6);
        text("gap 1 irank=1", 7);
        text("gap 1 ifrank=1", 8);
        text("gap 1if rank=1", 5);
        text("gap 1 and rank=1", 6);
    }

    /** "then any number of times: blank, and or or, blank, TEST"; "3 TESTS at most". */
    private static void threeTestsAtMost() {
        for (String joint : new String[] {" and ", " or "}) {
            String one = "gap 1 if rank=1";
            String two = one + joint + "cell<2";
            String three = two + joint + "heat>-3";
            text(one, -1);
            text(two, -1);
            text(three, -1);
            text(three + joint + "snow=4", three.length());
            text(three + " ", three.length());
            text(three + joint, three.length());
            text(three + "x", three.length());
            text(three + "0", -1);
            text(three + "000", -1);
            text(three + "0000", three.length() + 3);
            text(three + "000 ", three.length() + 3);
            text(two + " ", two.length() + 1);
            text(two + "  ", two.length() + 1);
            text(two + " if rank=1", two.length() + 1);
        }
    }

    /** "(all alike: and, or or)". */
    private static void allAlike() {
        text("gap 1 if rank=1 and cell=1 and cell=2", -1);
        text("gap 1 if rank=1 or cell=1 or cell=2", -1);
        text("gap 1 if rank=1 and cell=1 or cell=2", 27);
        text("gap 1 if rank=1 or cell=1 and cell=2", 26);
        text("gap 1 if rank=1 xor cell=1", 16);
        text("gap 1 if rank=1 an cell=1", 18);
        text("gap 1 if rank=1 ox cell=1", 17);
        text("gap 1 if rank=1 andcell=1", 19);
        text("gap 1 if rank=1 orcell=1", 18);
        text("gap 1 if rank=1and cell=1", 15);
        text("gap 1 if rank=1 and  cell=1", 20);
        text("gap 1 if rank=1  and cell=1", 16);
    }

    /** "(the end of THE TAPE, if it ends too early)": of each beginning of a rule that isn't one itself. */
    private static void endsTooEarly() {
        String[] rules = {LONGEST, "gap 5 if rank=1 or cell<2 or heat>-3", "stop 0 if snow=0 and cell=1"};
        for (String rule : rules) {
            for (int end = 0; end < rule.length(); end++) {
                boolean afterDigit = end > 0 && Character.isDigit(rule.charAt(end - 1));
                text(rule.substring(0, end), afterDigit ? -1 : end);
            }
            text(rule, -1);
        }
    }

    /** A tape may be longer than any rule: the fault is where the longest one ends. */
    private static void longTapes() {
        C.due("the longest rule", LONGEST.length(), 60);
        text(LONGEST, -1);
        text(LONGEST + "5", 60);
        text(LONGEST + " ", 60);
        text(LONGEST + " and weight=-1234 an", 60);
        C.due("of 80 bytes", (LONGEST + " and weight=-1234 an").length(), 80);
        text("gap 1" + " ".repeat(75), 6);
        text("gap " + "1".repeat(76), 8);
    }

    /** "the place of the first byte with which no RULE begins so": all 256 bytes behind each beginning. */
    private static void eachByteBehindEachBeginning() {
        String[] rules = {LONGEST, "gap 5 if rank=1 or cell<2 or heat>-3", "stop 0 if snow=0 and cell=1"};
        for (String rule : rules) {
            for (int end = 0; end <= rule.length(); end++) {
                for (int b = 0; b < 256; b++) {
                    String tried = rule.substring(0, end) + (char) b;
                    text(tried, RulesTest.faultByPattern(tried));
                }
            }
        }
    }

    /** "A RULE HOLDS .. if it is in force": in its first hour, not ahead of it; in its last one, not behind it. */
    private static void inForce() {
        int[][] forces = {{0, 1}, {0, 2}, {1, 2}, {2, 5}};
        for (int[] force : forces) {
            IceRoad x = new IceRoad();
            x.load(1, 0, 0);
            x.turn(0);
            Check.ruleOf(x, "gap 5", force[0], force[1]);
            for (int hour = 0; hour < 7; hour++) {
                boolean holds = hour >= force[0] && hour < force[1];
                C.due("from " + force[0] + " to " + force[1] + " in " + hour, x.said(0, 0, 1), holds ? 5 : 1);
                x.run(1);
            }
        }
    }

    /** The last hour that a rule may be in force is 99999. */
    private static void inForceAtTheLastHour() {
        IceRoad x = new IceRoad();
        x.load(1, 0, 0);
        x.turn(0);
        x.feed('g' << 24 | 'a' << 16 | 'p' << 8 | ' ', 4);
        x.feed('5', 1);
        x.rule(LAST - 1, LAST);
        for (int i = 0; i < 499; i++) {
            x.run(200);
        }
        x.run(198);
        C.due("in 99998", x.said(0, 0, 1), 1);
        x.run(1);
        C.due("in 99999", x.said(0, 0, 1), 5);
        x.run(1);
        C.due("in 100000", x.said(0, 0, 1), 1);
    }

    /** "Of each KEY the RULE of the greatest number that HOLDS says its NUMBER, else: thick 0, gap 1, stop 0." */
    private static void greatestNumber() {
        IceRoad x = new IceRoad();
        x.load(50, 5, 0);
        int[] defaults = {0, 1, 0};
        for (int key = 0; key < 3; key++) {
            C.due("by no rule, key " + key, x.said(0, 0, key), defaults[key]);
        }
        Check.ruleOf(x, "thick 900", 0, 9);
        Check.ruleOf(x, "thick 20", 0, 9);
        C.due("the later one, though it says less", x.said(0, 0, 0), 20);
        Check.ruleOf(x, "thick 700 if rank=6", 0, 9);
        C.due("one that doesn't hold says nothing", x.said(0, 0, 0), 20);
        Check.ruleOf(x, "thick 0", 0, 9);
        C.due("0 is said, too", x.said(0, 0, 0), 0);
        Check.ruleOf(x, "gap 0", 0, 9);
        C.due("gap 0", x.said(0, 0, 1), 0);
        Check.ruleOf(x, "stop 9999 if weight>49", 0, 9);
        C.due("stop 9999", x.said(0, 0, 2), 9999);
        C.due("thick stays", x.said(0, 0, 0), 0);
        C.due("gap stays", x.said(0, 0, 1), 0);
        x.load(49, 5, 0);
        C.due("of another load", x.said(1, 0, 2), 0);
    }

    /** Whether "stop 1 if" a test holds for the load 50, rank 5 and cell 1, of snow 7, at heat -30. */
    private static void test(String test, int due) {
        IceRoad x = new IceRoad();
        x.weather(0, -30);
        x.snow(7);
        x.load(50, 5, 0);
        C.due("rule if " + test, Check.ruleOf(x, "stop 1 if " + test, 0, 1), 0);
        C.due("if " + test, x.said(0, 1, 2), due);
    }

    /** "its TESTS are so (all, or one at least; heat: that of the open hour)". */
    private static void testsAtTheirLimits() {
        String[] fields = {"weight", "rank", "cell", "heat", "snow"};
        int[] facts = {50, 5, 1, -30, 7};
        for (int i = 0; i < fields.length; i++) {
            for (int by = -1; by <= 1; by++) {
                int limit = facts[i] + by;
                test(fields[i] + "=" + limit, by == 0 ? 1 : 0);
                test(fields[i] + "<" + limit, by > 0 ? 1 : 0);
                test(fields[i] + ">" + limit, by < 0 ? 1 : 0);
            }
            test(fields[i] + ">-9999", 1);
            test(fields[i] + "<9999", 1);
        }
        test("rank=5 and cell=1 and snow=7", 1);
        test("rank=4 and cell=1 and snow=7", 0);
        test("rank=5 and cell=2 and snow=7", 0);
        test("rank=5 and cell=1 and snow=8", 0);
        test("rank=4 or cell=2 or snow=8", 0);
        test("rank=5 or cell=2 or snow=8", 1);
        test("rank=4 or cell=1 or snow=8", 1);
        test("rank=4 or cell=2 or snow=7", 1);
        test("rank=5 or cell=1 or snow=7", 1);
        test("rank=5 and cell=2", 0);
        test("rank=4 or cell=1", 1);
    }

    /** "LET is a LOAD onto a CELL, if LEAST of its SPAN is what thick says at least, stop says 0". */
    private static void letByThick() {
        int[] leasts = {0, 500, 3000};
        for (int least : leasts) {
            for (int by = -1; by <= 1; by++) {
                if (least + by < 0) {
                    continue;
                }
                IceRoad x = new IceRoad();
                x.load(1, 0, 0);
                x.thick(0, least);
                x.read(0);
                Check.ruleOf(x, "thick " + (least + by), 0, 9);
                C.due("why, thick " + (least + by) + " of " + least, x.why(0, 0), by > 0 ? 2 : 0);
                C.due("may", x.may(0, 0), by > 0 ? 0 : 1);
            }
        }
        IceRoad p = new IceRoad();
        p.cell(20, 1, true);
        p.load(1, 0, 0);
        Check.ruleOf(p, "thick 3000", 0, 9);
        C.due("a portage is 3000", p.why(0, 2), 0);
        Check.ruleOf(p, "thick 3001", 0, 9);
        C.due("and no more", p.why(0, 2), 2);
        IceRoad s = new IceRoad();
        s.load(1, 0, 0);
        for (int stop : new int[] {0, 1, 9999}) {
            Check.ruleOf(s, "stop " + stop, 0, 9);
            C.due("stop " + stop, s.why(0, 0), stop == 0 ? 0 : 1);
        }
    }

    /** "at least as many hours went as gap says (so, with gap 1, in the next one)": of LOADS of the same way. */
    private static void letByGap() {
        for (int gap : new int[] {0, 1, 2, 5}) {
            for (int way = 0; way <= 1; way++) {
                hoursBehindOne(gap, way);
            }
        }
        IceRoad x = new IceRoad();
        x.load(1, 5, 0);
        Check.ruleOf(x, "gap 9999", 0, LAST);
        C.due("none came: gap 9999", x.may(0, 0), 1);
    }

    /** One LOAD goes over both CELLS; two of rank 0, one for each way, are asked for in each hour behind it. */
    private static void hoursBehindOne(int gap, int way) {
        String of = "gap " + gap + " way " + way + ", ";
        int first = way;
        int second = 1 - way;
        IceRoad x = new IceRoad();
        x.weather(0, 0);
        x.thick(0, 3000);
        x.thick(1, 3000);
        Check.ruleOf(x, "gap " + gap + " if rank=0", 0, LAST);
        x.load(1, 5, way);
        x.load(1, 0, 1 - way);
        x.load(1, 0, way);
        x.turn(1);
        x.turn(2);
        C.due(of + "none came", x.why(2, first), 0);
        x.run(1);
        for (int went = 1; went <= 6; went++) {
            C.due(of + went + " went", x.why(2, first), went >= gap ? 0 : 3);
            C.due(of + "the other way, " + went + " went", x.why(1, first), 0);
            C.due(of + "the next cell, " + went + " went", x.why(2, second), went == 1 || went - 1 >= gap ? 0 : 3);
            x.run(1);
        }
    }

    /** "BEYOND, NO" of said, in this order; key 0 .. 2. */
    private static void saidBounds() {
        S.changesNothing("said(0, 0, 0)", Scenes::busy, x -> x.said(0, 0, 0), 0);
        S.changesNothing("said(0, 0, 2)", Scenes::busy, x -> x.said(0, 0, 2), 2);
        S.changesNothing("said(4, 0, 1)", Scenes::busy, x -> x.said(4, 0, 1), 30);
        S.changesNothing("said(4, 4, 1)", Scenes::busy, x -> x.said(4, 4, 1), 1);
        for (int beyond : new int[] {-1, 5, MIN, MAX}) {
            for (int key : new int[] {0, -1, 3}) {
                S.refused("said(" + beyond + ", 0, " + key + ")", Scenes::busy, x -> x.said(beyond, 0, key),
                        IceRoad.BEYOND);
                S.refused("said(0, " + beyond + ", " + key + ")", Scenes::busy, x -> x.said(0, beyond, key),
                        IceRoad.BEYOND);
            }
        }
        for (int key : new int[] {-1, 3, MIN, MAX}) {
            S.refused("said(0, 0, " + key + ")", Scenes::busy, x -> x.said(0, 0, key), IceRoad.NO);
        }
        S.refused("said without loads", Scenes::bare, x -> x.said(0, 0, 0), IceRoad.BEYOND);
    }

    /** "The open hour (what = 0) .. tons DELIVERED (10). NO". */
    private static void countBounds() {
        int[] due = {8, 5, 5, 2, 12, 1, 1, 1, 1, 1, 30};
        for (int what = 0; what <= 10; what++) {
            int asked = what;
            S.changesNothing("count(" + what + ")", Scenes::busy, x -> x.count(asked), due[what]);
        }
        for (int what : new int[] {-1, 11, MIN, MAX}) {
            S.refused("count(" + what + ")", Scenes::busy, x -> x.count(what), IceRoad.NO);
        }
    }
}
