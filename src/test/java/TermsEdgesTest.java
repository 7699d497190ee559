/** The words of 'Terms' and of ==== 1, 3 and 4: each sentence at its bounds. */
public final class TermsEdgesTest {
    private static final Check C = new Check("TermsEdgesTest");

    public static void main(String[] args) {
        hoursModulo48();
        gapsBetween();
        gapsRoundThe48();
        oneNumberAlone();
        allGaps();
        growthIsCut();
        growthByKinds();
        noGrowthAtZero();
        meltingIsCut();
        thicknessStaysBetween();
        portagesHaveNoHours();
        healingBelowMinus100();
        healingOf24();
        healingAnew();
        borne();
        borneByCracked();
        knownTillAnotherKind();
        knownWhileTheKindStays();
        spanWithNone();
        spanWithOneSide();
        spanWithBothSides();
        spanOverPortages();
        lengthOfEachCell();
        deliveredFromTheLast();
        ranksAndNumbers();
        sameWay();
        otherWayAtTheShore();
        shoreOfAGate();
        shoreOfAPortage();
        wearUpToThickness();
        wearOfCracked();
        wearOfPortages();
        brokenIn();
        oneThatBrokeInCame();
        theHourIsOpenWhileItGoes();
        C.end();
    }

    /** "48 numbers, for HOURS modulo 48". */
    private static void hoursModulo48() {
        IceRoad x = new IceRoad();
        for (int hour = 0; hour < 48; hour++) {
            x.weather(hour, -hour);
        }
        int[] hours = {0, 1, 47, 48, 95, 96, 4800, 99999, 100000};
        for (int hour : hours) {
            C.due("heat(" + hour + ")", x.heat(hour), -(hour % 48));
        }
        IceRoad y = new IceRoad();
        for (int hour = 0; hour < 48; hour++) {
            y.weather(hour, 0);
        }
        y.weather(0, 300);
        y.thick(0, 3000);
        y.run(1);
        C.due("hour 0", y.look(0, 1), 2969);
        y.run(47);
        C.due("hours 1 .. 47", y.look(0, 1), 2969);
        y.run(1);
        C.due("hour 48", y.look(0, 1), 2938);
    }

    /** "the greater one of the nearest number before it and the nearest behind it". */
    private static void gapsBetween() {
        int[][] pairs = {{-300, -200}, {-200, -300}, {-200, -200}, {-600, 300}, {300, -600}, {0, -1}, {-1, 0}};
        for (int[] pair : pairs) {
            IceRoad x = new IceRoad();
            x.weather(9, 250);
            x.weather(10, pair[0]);
            x.weather(14, pair[1]);
            x.weather(15, 260);
            for (int hour = 11; hour <= 13; hour++) {
                C.due("between " + pair[0] + " and " + pair[1], x.heat(hour), Math.max(pair[0], pair[1]));
            }
            C.due("a number is itself", x.heat(10), pair[0]);
            C.due("the other, too", x.heat(14), pair[1]);
        }
    }

    /** "round the 48". */
    private static void gapsRoundThe48() {
        IceRoad x = new IceRoad();
        x.weather(1, -300);
        x.weather(46, -200);
        C.due("hour 0: before it is 46", x.heat(0), -200);
        C.due("hour 47: behind it is 1", x.heat(47), -200);
        x.weather(46, -400);
        C.due("hour 0: the greater is 1", x.heat(0), -300);
        C.due("hour 47: the greater is 1", x.heat(47), -300);
        C.due("hour 2: before it is 1", x.heat(2), -300);
        IceRoad y = new IceRoad();
        for (int hour = 1; hour < 47; hour++) {
            y.weather(hour, 100);
        }
        y.weather(0, -50);
        C.due("hour 47: behind it is 0", y.heat(47), 100);
        y.weather(46, -60);
        C.due("hour 47: 0 is the greater", y.heat(47), -50);
        IceRoad z = new IceRoad();
        for (int hour = 1; hour < 47; hour++) {
            z.weather(hour, 100);
        }
        z.weather(47, -50);
        z.weather(1, -60);
        C.due("hour 0: 47 is the greater", z.heat(0), -50);
        C.due("hour 48, too", z.heat(48), -50);
    }

    /** One number is the nearest before all others and behind them. */
    private static void oneNumberAlone() {
        for (int told : new int[] {0, 1, 23, 24, 46, 47}) {
            IceRoad x = new IceRoad();
            x.weather(told, -321);
            for (int hour = 0; hour < 48; hour++) {
                C.due("heat(" + hour + ") by " + told, x.heat(hour), -321);
            }
        }
    }

    /** "if all are GAPS: -100": at first, and when the last number becomes one. */
    private static void allGaps() {
        IceRoad x = new IceRoad();
        for (int hour = 0; hour < 48; hour++) {
            C.due("at first heat(" + hour + ")", x.heat(hour), -100);
        }
        x.weather(5, 200);
        C.due("with one", x.heat(6), 200);
        x.weather(5, -9999);
        C.due("without it", x.heat(6), -100);
        C.due("its own", x.heat(5), -100);
        x.run(1);
        C.due("an hour at -100", x.look(0, 1), 10);
    }

    /** Thickness behind an hour at a heat, of a cell 0 that was of a thickness, under snow. */
    private static int behind(int heat, int thickness, int snow) {
        IceRoad x = new IceRoad();
        x.weather(0, heat);
        x.thick(0, thickness);
        for (int fallen = 0; fallen < snow; fallen += 50) {
            x.snow(Math.min(50, snow - fallen));
        }
        x.run(1);
        return x.look(0, 1);
    }

    /** "-h times RATE / (100 + THICKNESS / 10 + 3 SNOW)", "quotients are cut towards 0". */
    private static void growthIsCut() {
        C.due("90 of 100", behind(-9, 0, 0), 0);
        C.due("100 of 100", behind(-10, 0, 0), 1);
        C.due("190 of 100", behind(-19, 0, 0), 1);
        C.due("200 of 100", behind(-20, 0, 0), 2);
        C.due("thickness 9 counts 0", behind(-10, 9, 0), 10);
        C.due("thickness 10 counts 1", behind(-10, 10, 0), 10);
        C.due("thickness 19 counts 1: 110 of 101", behind(-11, 19, 0), 20);
        C.due("snow 1 counts 3", behind(-10, 0, 1), 0);
        C.due("110 of 103", behind(-11, 0, 1), 1);
        C.due("200 of snow: 6000 of 700", behind(-600, 0, 200), 8);
        C.due("6000 of 100", behind(-600, 0, 0), 60);
        C.due("6000 of 1000", behind(-600, 3000, 200), 3000);
        C.due("6000 of 398, to 3000", behind(-600, 2985, 0), 3000);
        C.due("6000 of 398, to 2999", behind(-600, 2984, 0), 2999);
    }

    /** A road whose cells are ICE, SWEPT, FLOODED and CRACKED, of a thickness, at heat 0 so far. */
    private static IceRoad kinds(int thickness) {
        IceRoad x = new IceRoad();
        x.cell(20, 1, false);
        x.cell(20, 1, false);
        x.weather(0, 0);
        x.load(99, 0, 1);
        x.run(1);
        x.sweep(1);
        x.sweep(2);
        x.flood(2);
        for (int c = 0; c < 4; c++) {
            x.thick(c, thickness);
        }
        return x;
    }

    /** "RATE being 10, of FLOODED 20, of CRACKED 5 (SNOW counts 0 of SWEPT and FLOODED)". */
    private static void growthByKinds() {
        IceRoad x = kinds(0);
        int[] more = {10, 10, 20, 5};
        x.weather(0, -100);
        x.run(1);
        for (int c = 0; c < 4; c++) {
            C.due("kind " + c + " at -100", x.look(c, 1), more[c]);
            C.due("it is of kind " + c, x.look(c, 0), c);
        }
        IceRoad w = kinds(0);
        w.weather(0, -99);
        w.run(1);
        int[] cut = {9, 9, 19, 4};
        for (int c = 0; c < 4; c++) {
            C.due("kind " + c + " at -99", w.look(c, 1), cut[c]);
        }
        // snow on all but those that are swept behind it: 3 * 20 = 60 more for ICE and CRACKED
        IceRoad y = kinds(0);
        y.snow(20);
        y.sweep(1);
        y.sweep(2);
        y.flood(2);
        y.weather(0, -160);
        int[] under = {10, 16, 32, 5};
        y.run(1);
        for (int c = 0; c < 4; c++) {
            C.due("kind " + c + " at -160 under snow", y.look(c, 1), under[c]);
        }
        IceRoad z = kinds(1000);
        z.weather(0, -100);
        z.run(1);
        int[] thick = {1005, 1005, 1010, 1002};
        for (int c = 0; c < 4; c++) {
            C.due("kind " + c + " of 1000", z.look(c, 1), thick[c]);
        }
    }

    /** "if h is below 0 .. if h is above 0": at 0 nothing. */
    private static void noGrowthAtZero() {
        C.due("0", behind(0, 500, 0), 500);
        C.due("-1", behind(-1, 0, 0), 0);
        C.due("1", behind(1, 500, 0), 499);
        C.due("-5 flooded", floodedAt(-5), 1);
        C.due("-4 flooded", floodedAt(-4), 0);
    }

    private static int floodedAt(int heat) {
        IceRoad x = new IceRoad();
        x.weather(0, heat);
        x.sweep(0);
        x.flood(0);
        x.run(1);
        return x.look(0, 1);
    }

    /** "THICKNESS is less by h / 10 + 1", of each kind alike. */
    private static void meltingIsCut() {
        int[] heats = {1, 9, 10, 11, 19, 20, 299, 300};
        int[] less = {1, 1, 2, 2, 2, 3, 30, 31};
        for (int i = 0; i < heats.length; i++) {
            C.due("at " + heats[i], behind(heats[i], 1000, 0), 1000 - less[i]);
            C.due("at " + heats[i] + " under snow", behind(heats[i], 1000, 200), 1000 - less[i]);
            IceRoad x = kinds(1000);
            x.weather(0, heats[i]);
            x.run(1);
            for (int c = 0; c < 4; c++) {
                C.due("kind " + c + " at " + heats[i], x.look(c, 1), 1000 - less[i]);
            }
        }
    }

    /** "(It stays between 0 and 3000.)" */
    private static void thicknessStaysBetween() {
        C.due("31 at 300", behind(300, 31, 0), 0);
        C.due("32 at 300", behind(300, 32, 0), 1);
        C.due("30 at 300", behind(300, 30, 0), 0);
        C.due("0 at 300", behind(300, 0, 0), 0);
        C.due("1 at 1", behind(1, 1, 0), 0);
        C.due("0 at 1", behind(1, 0, 0), 0);
        C.due("3000 at -600", behind(-600, 3000, 0), 3000);
        C.due("2999 at -600", behind(-600, 2999, 0), 3000);
        C.due("2986 at -600", behind(-600, 2986, 0), 3000);
    }

    /** "of all but PORTAGES". */
    private static void portagesHaveNoHours() {
        for (int heat : new int[] {-600, 300}) {
            IceRoad x = new IceRoad();
            x.cell(20, 1, true);
            x.weather(0, heat);
            x.run(30);
            C.due("a portage at " + heat, x.look(2, 1), 0);
            C.due("its kind", x.look(2, 0), 4);
            C.due("its healing", x.look(2, 6), IceRoad.NONE);
        }
    }

    /** "A CRACKED one, if h is below -100, has one hour of HEALING more". */
    private static void healingBelowMinus100() {
        int[] heats = {-101, -100, -99, 0, 1, 300, -600};
        int[] due = {1, 0, 0, 0, 0, 0, 1};
        for (int i = 0; i < heats.length; i++) {
            IceRoad x = kinds(500);
            x.weather(0, heats[i]);
            x.run(1);
            C.due("healing at " + heats[i], x.look(3, 6), due[i]);
            for (int c = 0; c < 3; c++) {
                C.due("of kind " + c, x.look(c, 6), IceRoad.NONE);
            }
        }
    }

    /** "with 24 of them it is ICE, its WEAR 0". */
    private static void healingOf24() {
        IceRoad x = kinds(1500);
        x.load(30, 0, 1);
        x.run(1);
        C.due("wear of a cracked one", x.look(3, 5), 30);
        x.weather(0, -101);
        x.run(12);
        x.weather(0, -100);
        x.run(5);
        x.weather(0, -101);
        x.run(11);
        C.due("23 hours", x.look(3, 6), 23);
        C.due("cracked", x.look(3, 0), 3);
        C.due("its wear", x.look(3, 5), 30);
        x.run(1);
        C.due("the 24th: ice", x.look(3, 0), 0);
        C.due("its healing", x.look(3, 6), IceRoad.NONE);
        C.due("its wear then", x.look(3, 5), 0);
        x.thick(3, 1000);
        C.due("it bears as ice does", x.bears(3, 99), 1);
        C.due("it grows as ice does", x.run(1) + x.look(3, 1), 1000 + 1010 / 200);
    }

    /** "A CELL that is CRACKED so (also one that was) has no HEALING yet." */
    private static void healingAnew() {
        IceRoad x = kinds(0);
        x.weather(0, -101);
        x.run(23);
        C.due("23 hours", x.look(3, 6), 23);
        x.thick(3, 100);
        x.weather(0, 0);
        x.load(99, 0, 1);
        x.run(1);
        C.due("broken in", x.count(8), 2);
        C.due("a cracked one, cracked by it", x.look(3, 6), 0);
        x.weather(0, -101);
        x.run(23);
        C.due("23 again", x.look(3, 6), 23);
        C.due("cracked still", x.look(3, 0), 3);
        x.run(1);
        C.due("ice", x.look(3, 0), 0);
        x.weather(0, 0);
        x.thick(3, 0);
        x.load(99, 0, 1);
        x.run(1);
        C.due("ice that is cracked again", x.look(3, 6), 0);
    }

    /** "THICKNESS times THICKNESS / 10000 is w at least". */
    private static void borne() {
        int[] thicknesses = {0, 99, 100, 141, 142, 707, 708, 728, 781, 866, 911, 994, 995, 3000};
        int[] most = {0, 0, 1, 1, 2, 49, 50, 52, 60, 74, 82, 98, 99, 99};
        for (int i = 0; i < thicknesses.length; i++) {
            IceRoad x = new IceRoad();
            x.thick(0, thicknesses[i]);
            for (int w = 1; w <= 99; w++) {
                C.due(thicknesses[i] + " bears " + w, x.bears(0, w), w <= most[i] ? 1 : 0);
            }
        }
    }

    /** "of CRACKED ones 2 w; a PORTAGE bears all"; SWEPT and FLOODED ones as ICE. */
    private static void borneByCracked() {
        int[] thicknesses = {141, 142, 199, 200, 1077, 1407, 1408, 3000};
        int[] sound = {1, 2, 3, 4, 99, 99, 99, 99};
        int[] cracked = {0, 1, 1, 2, 57, 98, 99, 99};
        for (int i = 0; i < thicknesses.length; i++) {
            IceRoad x = kinds(thicknesses[i]);
            for (int c = 0; c < 4; c++) {
                int most = c == 3 ? cracked[i] : sound[i];
                C.due("kind " + c + " bears " + most, most == 0 ? 1 : x.bears(c, most), 1);
                C.due("kind " + c + " bears one more", most == 99 ? 0 : x.bears(c, most + 1), 0);
            }
        }
        IceRoad p = new IceRoad();
        p.cell(20, 1, true);
        C.due("a portage bears 1", p.bears(2, 1), 1);
        C.due("a portage bears 99", p.bears(2, 99), 1);
    }

    /** "what was READ last is KNOWN of it, till its KIND becomes another one". */
    private static void knownTillAnotherKind() {
        IceRoad x = new IceRoad();
        x.weather(0, 0);
        x.thick(0, 500);
        x.read(0);
        x.sweep(0);
        C.due("ice swept", x.look(0, 8), 3000);
        x.read(0);
        x.flood(0);
        C.due("swept, flooded", x.look(0, 8), 3000);
        x.read(0);
        x.snow(1);
        C.due("flooded, under snow", x.look(0, 8), 3000);
        x.sweep(0);
        x.read(0);
        x.snow(1);
        C.due("swept, under snow", x.look(0, 8), 3000);
        x.read(0);
        C.due("read as ice", x.look(0, 7), 500);
        x.load(99, 0, 0);
        x.run(1);
        C.due("ice, cracked by one that broke in", x.look(0, 8), 3000);
        x.read(0);
        C.due("read as cracked", x.look(0, 7), 500);
        x.bypass(0);
        C.due("cracked, passed by", x.look(0, 8), 3000);
        IceRoad y = kinds(0);
        y.weather(0, -101);
        y.run(23);
        int read = y.read(3);
        C.due("known", y.look(3, 8), read);
        y.run(1);
        C.due("cracked, healed", y.look(3, 8), 3000);
        IceRoad z = new IceRoad();
        z.weather(0, 0);
        z.thick(0, 100);
        z.read(0);
        for (int i = 0; i < 2; i++) {
            z.load(1, 0, 0);
        }
        z.thick(1, 3000);
        z.run(1);
        C.due("known while it wears", z.look(0, 8), 100);
        z.thick(0, 142);
        z.run(1);
        C.due("known still", z.look(0, 8), 100);
    }

    /** A call or an hour that leaves the KIND leaves what is KNOWN, also where the THICKNESS is another one. */
    private static void knownWhileTheKindStays() {
        IceRoad x = kinds(700);
        for (int c = 0; c < 4; c++) {
            x.read(c);
        }
        x.sweep(1);
        x.flood(2);
        for (int c = 0; c < 4; c++) {
            x.thick(c, 10);
        }
        x.load(99, 0, 1);
        x.run(1);
        C.due("cracked again", x.count(8), 2);
        x.weather(0, -50);
        x.run(5);
        for (int c = 0; c < 4; c++) {
            C.due("least of kind " + c, x.look(c, 7), 700);
            C.due("most of kind " + c, x.look(c, 8), 700);
        }
        x.snow(9);
        C.due("ice under snow", x.look(0, 8), 700);
        C.due("cracked under snow", x.look(3, 8), 700);
        C.due("what was read last", x.read(0) == x.look(0, 7) ? 1 : 0, 1);
    }

    /** "with none: 0, 3000". */
    private static void spanWithNone() {
        IceRoad x = new IceRoad();
        x.cell(20, 1, true);
        x.cell(20, 1, false);
        for (int c : new int[] {0, 1, 3}) {
            C.due("least of " + c, x.look(c, 7), 0);
            C.due("most of " + c, x.look(c, 8), 3000);
        }
    }

    /** "with one side alone: half of that (LEAST) and that". */
    private static void spanWithOneSide() {
        int[] reads = {0, 1, 2, 3, 2999, 3000};
        int[] halves = {0, 0, 1, 1, 1499, 1500};
        for (int i = 0; i < reads.length; i++) {
            for (int known : new int[] {0, 9}) {
                IceRoad x = new IceRoad();
                for (int c = 2; c < 10; c++) {
                    x.cell(20, 1, false);
                }
                x.thick(known, reads[i]);
                x.read(known);
                for (int c = 0; c < 10; c++) {
                    C.due("least of " + c + " by " + known, x.look(c, 7), c == known ? reads[i] : halves[i]);
                    C.due("most of " + c + " by " + known, x.look(c, 8), reads[i]);
                }
            }
        }
    }

    /** "by the nearest KNOWN ones on both sides: the lesser and the greater of these". */
    private static void spanWithBothSides() {
        int[][] pairs = {{300, 700}, {700, 300}, {500, 500}, {0, 3000}, {3000, 0}, {0, 0}};
        for (int[] pair : pairs) {
            IceRoad x = new IceRoad();
            for (int c = 2; c < 7; c++) {
                x.cell(20, 1, false);
            }
            x.thick(0, 1);
            x.read(0);
            x.thick(1, pair[0]);
            x.read(1);
            x.thick(5, pair[1]);
            x.read(5);
            x.thick(6, 2);
            x.read(6);
            for (int c = 2; c < 5; c++) {
                C.due("least between " + pair[0] + " and " + pair[1], x.look(c, 7), Math.min(pair[0], pair[1]));
                C.due("most between " + pair[0] + " and " + pair[1], x.look(c, 8), Math.max(pair[0], pair[1]));
            }
        }
    }

    /** "(PORTAGES are never KNOWN; their SPAN is 3000, 3000.)": the nearest ones are looked for past them. */
    private static void spanOverPortages() {
        IceRoad x = new IceRoad();
        x.cell(20, 1, true);
        x.cell(20, 1, false);
        C.due("by none, a portage beside it", x.look(1, 8) + x.look(1, 7), 3000);
        x.thick(1, 400);
        x.read(1);
        C.due("over it, least", x.look(3, 7), 200);
        C.due("over it, most", x.look(3, 8), 400);
        x.read(2);
        C.due("its own least", x.look(2, 7), 3000);
        C.due("its own most", x.look(2, 8), 3000);
    }

    /** A road of cells of thickness 3000 at heat 0; two of DEPTH 20, LENGTH 1 first. */
    private static IceRoad solid(int[]... depthsAndLengths) {
        IceRoad x = new IceRoad();
        for (int[] cell : depthsAndLengths) {
            x.cell(cell[0], cell[1], false);
        }
        for (int c = 0; c < depthsAndLengths.length + 2; c++) {
            x.thick(c, 3000);
        }
        x.weather(0, 0);
        return x;
    }

    /** "LOADS on a CELL that were there for LENGTH hours or more". */
    private static void lengthOfEachCell() {
        for (int length = 1; length <= 4; length++) {
            IceRoad x = solid(new int[] {20, length}, new int[] {20, 1});
            x.load(1, 0, 0);
            x.run(3);
            C.due("on cell 2", x.of(0, 4), 2);
            for (int hours = 0; hours < length; hours++) {
                C.due("of length " + length + " there", x.of(0, 5), hours);
                C.due("still on it", x.of(0, 4), 2);
                x.run(1);
            }
            C.due("on cell 3", x.of(0, 4), 3);
            C.due("no hours there yet", x.of(0, 5), 0);
        }
        // one that is held up goes on as soon as it can, though it is there for longer
        IceRoad y = solid();
        Check.ruleOf(y, "stop 1 if cell=1", 0, 5);
        y.load(1, 0, 0);
        y.run(5);
        C.due("held up", y.of(0, 5), 4);
        y.run(1);
        C.due("it went on", y.of(0, 4), 1);
    }

    /** "from the last one of its way it is DELIVERED": up from the last CELL, down from CELL 0. */
    private static void deliveredFromTheLast() {
        for (int way = 0; way <= 1; way++) {
            IceRoad x = solid();
            x.load(5, 0, way);
            C.due("hour 0", x.run(1), 0);
            C.due("the first cell", x.of(0, 4), way);
            C.due("hour 1", x.run(1), 0);
            C.due("the last cell", x.of(0, 4), 1 - way);
            C.due("hour 2", x.run(1), 1);
            C.due("delivered in", x.of(0, 6), 2);
            C.due("tons", x.count(10), 5);
        }
        // no rule, no other load and no shore keep one from being delivered
        IceRoad y = solid();
        y.load(5, 0, 0);
        y.run(2);
        Check.ruleOf(y, "stop 1", 0, 100000);
        C.due("delivered all the same", y.run(1), 1);
    }

    /** "those of the greatest RANK first, of these by numbers". */
    private static void ranksAndNumbers() {
        IceRoad x = solid();
        x.load(1, 0, 0);
        x.load(1, 9, 0);
        x.load(1, 0, 0);
        x.load(1, 9, 0);
        int[] order = {1, 3, 0, 2};
        for (int hour = 0; hour < 4; hour++) {
            x.run(1);
            C.due("onto the first cell in hour " + hour, x.of(order[hour], 4), 0);
        }
        // one that leaves late leaves no room for one that asked ahead of it, but for one that asks behind it
        for (int rank = 4; rank <= 6; rank++) {
            IceRoad y = solid();
            y.load(1, 5, 0);
            y.run(1);
            y.load(1, rank, 0);
            y.run(2);
            C.due("the first is delivered", y.of(0, 3), 2);
            C.due("one of rank " + rank + " behind rank 5", y.of(1, 4), rank == 6 ? 0 : 1);
        }
        // those that wait ask behind all that are on a cell, though their rank is greater
        IceRoad z = solid();
        z.load(1, 0, 0);
        z.run(1);
        z.load(1, 9, 0);
        z.run(1);
        C.due("the one that waited found room", z.of(1, 4), 0);
    }

    /** "and no LOAD that goes the same way is on it". */
    private static void sameWay() {
        IceRoad x = new IceRoad();
        x.thick(0, 3000);
        x.thick(1, 3000);
        x.weather(0, 0);
        Check.ruleOf(x, "stop 1 if cell=1", 0, 10);
        Check.ruleOf(x, "gap 0", 0, 10);
        x.load(1, 0, 0);
        x.load(1, 0, 0);
        x.run(5);
        C.due("one is on", x.look(0, 9), 1);
        C.due("the other waits", x.of(1, 3), 0);
        C.due("rules would let it on", x.may(1, 0), 1);
        IceRoad y = solid();
        y.load(1, 0, 0);
        y.run(1);
        y.load(1, 0, 1);
        y.run(1);
        C.due("they meet", y.look(1, 9), 2);
        y.run(1);
        C.due("one is delivered", y.of(0, 3), 2);
        C.due("the other goes on", y.of(1, 4), 0);
    }

    /** "no LOAD that goes the other way is on that CELL, if it is SHORE"; "below 10 it is SHORE". */
    private static void otherWayAtTheShore() {
        for (int depth : new int[] {1, 9, 10, 60}) {
            IceRoad x = solid(new int[] {depth, 4});
            x.load(1, 5, 1);
            x.run(1);
            x.load(1, 5, 0);
            x.run(3);
            C.due("one is on depth " + depth, x.of(0, 4), 2);
            C.due("the other one", x.of(1, 4), depth < 10 ? 1 : 2);
            C.due("loads there", x.look(2, 9), depth < 10 ? 1 : 2);
        }
    }

    /** The gate of a road may be near shore, too: a LOAD WAITS there till the CELL is free. */
    private static void shoreOfAGate() {
        for (int depth : new int[] {9, 10}) {
            IceRoad x = solid(new int[] {depth, 2});
            x.load(1, 5, 0);
            x.run(3);
            C.due("up, on the last cell", x.of(0, 4), 2);
            x.load(1, 5, 1);
            x.run(1);
            C.due("down, of depth " + depth, x.of(1, 3), depth == 9 ? 0 : 1);
            x.run(1);
            C.due("up is delivered", x.of(0, 3), 2);
            C.due("down is on", x.of(1, 4), 2);
        }
    }

    /** "a DEPTH (1 .. 60; below 10 it is SHORE)": each CELL has one, a PORTAGE, too. */
    private static void shoreOfAPortage() {
        for (int depth : new int[] {9, 10}) {
            IceRoad x = new IceRoad();
            x.cell(depth, 4, true);
            x.thick(0, 3000);
            x.thick(1, 3000);
            x.weather(0, 0);
            x.load(1, 0, 1);
            x.load(1, 9, 0);
            x.run(3);
            C.due("down, on a portage of depth " + depth, x.of(0, 4), 2);
            C.due("up, ahead of it or on it", x.of(1, 4), depth == 9 ? 1 : 2);
        }
    }

    /** "else WEAR of the CELL is more by WEIGHT; if it is THICKNESS at least then: the CELL is CRACKED, its WEAR 0". */
    private static void wearUpToThickness() {
        for (int by = -1; by <= 1; by++) {
            IceRoad x = new IceRoad();
            x.weather(0, 0);
            x.thick(0, 3000);
            x.thick(1, 3000);
            x.read(0);
            for (int i = 0; i < 15; i++) {
                x.load(20, 0, 0);
            }
            x.run(14);
            C.due("280 so far", x.look(0, 5), 280);
            // 500 bears 25
            x.thick(0, 500);
            x.run(1);
            C.due("300 of 500", x.look(0, 5), 300);
            for (int i = 0; i < 8; i++) {
                x.load(25, 0, 0);
            }
            x.run(7);
            C.due("475 of 500", x.look(0, 5), 475);
            C.due("ice", x.look(0, 0), 0);
            x.thick(0, 500 + by);
            x.run(1);
            // 499 bears 24 alone: the eighth breaks in; 500 is worn by it; 501 isn't
            C.due("broken in at " + (500 + by), x.count(8), by < 0 ? 1 : 0);
            C.due("kind at " + (500 + by), x.look(0, 0), by > 0 ? 0 : 3);
            C.due("wear at " + (500 + by), x.look(0, 5), by > 0 ? 500 : 0);
            C.due("on it at " + (500 + by), x.look(0, 9), by < 0 ? 0 : 1);
            C.due("known at " + (500 + by), x.look(0, 8), 3000);
            C.due("healing at " + (500 + by), x.look(0, 6), by > 0 ? IceRoad.NONE : 0);
        }
    }

    /** A CRACKED CELL wears, too, and is CRACKED anew by it: its WEAR is 0, and its HEALING. */
    private static void wearOfCracked() {
        IceRoad x = new IceRoad();
        x.weather(0, 0);
        x.thick(1, 3000);
        x.load(99, 0, 0);
        x.run(1);
        x.weather(0, -101);
        x.run(5);
        C.due("five hours", x.look(0, 6), 5);
        x.weather(0, 0);
        // cracked 500 bears 12
        x.thick(0, 500);
        for (int i = 0; i < 20; i++) {
            x.load(12, 0, 0);
        }
        x.run(20);
        C.due("240 of 500", x.look(0, 5), 240);
        C.due("five hours still", x.look(0, 6), 5);
        x.read(0);
        // cracked 243 bears 2
        x.thick(0, 243);
        for (int i = 0; i < 3; i++) {
            x.load(2, 0, 0);
        }
        x.run(1);
        C.due("242 of 243", x.look(0, 5), 242);
        C.due("five hours, worn to 242", x.look(0, 6), 5);
        x.run(1);
        C.due("244 of 243", x.look(0, 5), 0);
        C.due("no hours", x.look(0, 6), 0);
        C.due("cracked", x.look(0, 0), 3);
        C.due("none broke in but the first", x.count(8), 1);
        C.due("the load stays on", x.look(0, 9), 1);
        C.due("known still", x.look(0, 7), 500);
    }

    /** "(not of PORTAGES)": their WEAR is more by each WEIGHT, and they are never CRACKED. */
    private static void wearOfPortages() {
        IceRoad x = new IceRoad();
        x.cell(20, 1, true);
        x.weather(0, 0);
        x.thick(0, 3000);
        x.thick(1, 3000);
        for (int i = 0; i < 24; i++) {
            x.load(99, 0, 0);
        }
        x.run(3);
        C.due("one came", x.look(2, 5), 99);
        C.due("a portage", x.look(2, 0), 4);
        x.run(30);
        C.due("all came", x.look(2, 5), 24 * 99);
        C.due("a portage still", x.look(2, 0), 4);
        C.due("all are delivered", x.count(7), 24);
    }

    /** "if it isn't BORNE it is BROKEN IN, and the CELL is CRACKED, its WEAR 0". */
    private static void brokenIn() {
        for (int weight = 49; weight <= 50; weight++) {
            IceRoad x = new IceRoad();
            x.weather(0, 0);
            x.thick(0, 700);
            x.thick(1, 3000);
            x.load(10, 9, 0);
            x.load(weight, 0, 0);
            x.run(1);
            C.due("wear by the first", x.look(0, 5), 10);
            x.run(1);
            boolean breaks = weight == 50;
            C.due("state of " + weight, x.of(1, 3), breaks ? 3 : 1);
            C.due("hour of " + weight, x.of(1, 6), breaks ? 1 : IceRoad.NONE);
            C.due("cell of " + weight, x.of(1, 4), breaks ? IceRoad.NONE : 0);
            C.due("hours there of " + weight, x.of(1, 5), breaks ? IceRoad.NONE : 0);
            C.due("kind behind " + weight, x.look(0, 0), breaks ? 3 : 0);
            C.due("wear behind " + weight, x.look(0, 5), breaks ? 0 : 59);
            C.due("thickness stays", x.look(0, 1), 700);
        }
        IceRoad p = new IceRoad();
        p.cell(20, 1, true);
        p.weather(0, 0);
        p.load(99, 0, 1);
        p.run(1);
        C.due("a portage bears all", p.of(0, 4), 2);
    }

    /** "As it comes (one that breaks in came, too)": the gap counts from it. */
    private static void oneThatBrokeInCame() {
        IceRoad x = new IceRoad();
        x.weather(0, 0);
        x.thick(1, 3000);
        Check.ruleOf(x, "gap 3", 0, 100);
        x.load(99, 0, 0);
        x.load(1, 0, 0);
        x.load(1, 0, 1);
        x.run(1);
        C.due("broken in", x.of(0, 3), 3);
        x.thick(0, 3000);
        C.due("one hour went", x.why(1, 0), 3);
        C.due("for the other way none came", x.why(2, 0), 0);
        x.run(1);
        C.due("two hours went", x.why(1, 0), 3);
        x.run(1);
        C.due("three went", x.why(1, 0), 0);
        C.due("it waits so far", x.of(1, 3), 0);
        x.run(1);
        C.due("it comes", x.of(1, 4), 0);
    }

    /** "(5) The hour is closed": rules and HEATS of an hour count for all that goes in it. */
    private static void theHourIsOpenWhileItGoes() {
        IceRoad x = solid();
        Check.ruleOf(x, "stop 1", 1, 2);
        x.load(1, 0, 0);
        x.load(1, 0, 1);
        x.run(1);
        C.due("hour 0 lets on", x.of(0, 4), 0);
        C.due("hour 1 is open", x.why(0, 1), 1);
        x.run(1);
        C.due("hour 1 stops", x.of(0, 4), 0);
        C.due("an hour there", x.of(0, 5), 1);
        x.run(1);
        C.due("hour 2 lets on", x.of(0, 4), 1);
        // the cells have their hour ahead of the loads: what grew bears
        IceRoad y = new IceRoad();
        y.weather(0, -600);
        y.thick(0, 41);
        y.load(1, 0, 0);
        y.run(1);
        C.due("41 became 98: broken in", y.of(0, 3), 3);
        IceRoad z = new IceRoad();
        z.weather(0, -600);
        z.thick(0, 43);
        z.load(1, 0, 0);
        z.run(1);
        C.due("43 became 100: borne", z.of(0, 3), 1);
    }
}
