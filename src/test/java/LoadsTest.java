/** Promises 14 to 20: loads. */
public final class LoadsTest {
    private static final Check C = new Check("LoadsTest");

    public static void main(String[] args) {
        load();
        of();
        mayAndWhy();
        turn();
        run();
        ranks();
        shore();
        gaps();
        wear();
        breakingIn();
        thaw();
        C.end();
    }

    /** A road of cells of thickness 2000 at heat 0, of the depths told, each of length 1. */
    private static IceRoad road(int... depths) {
        IceRoad x = new IceRoad();
        for (int depth : depths) {
            x.cell(depth, 1, false);
        }
        for (int i = 0; i < depths.length + 2; i++) {
            x.thick(i, 2000);
        }
        x.weather(0, 0);
        return x;
    }

    private static void load() {
        IceRoad x = new IceRoad();
        C.due("weight 0", x.load(0, 0, 0), IceRoad.NO);
        C.due("weight 100", x.load(100, 0, 0), IceRoad.NO);
        C.due("rank -1", x.load(1, -1, 0), IceRoad.NO);
        C.due("rank 10", x.load(1, 10, 0), IceRoad.NO);
        C.due("way -1", x.load(1, 0, -1), IceRoad.NO);
        C.due("way 2", x.load(1, 0, 2), IceRoad.NO);
        C.due("none came", x.count(2), 0);
        for (int i = 0; i < 24; i++) {
            C.due("load " + i, x.load(i % 2 == 0 ? 1 : 99, i % 10, i % 2), i);
        }
        C.due("load 24", x.load(1, 0, 0), IceRoad.FULL);
        C.due("no ahead of full", x.load(1, 0, 2), IceRoad.NO);
        C.due("loads", x.count(2), 24);
        C.due("they wait", x.count(5), 24);
    }

    private static void of() {
        IceRoad x = road();
        x.load(12, 3, 1);
        int[] waits = {12, 3, 1, 0, -1, -1, -1};
        int[] on = {12, 3, 1, 1, 1, 0, -1};
        int[] further = {12, 3, 1, 1, 0, 0, -1};
        int[] delivered = {12, 3, 1, 2, -1, -1, 2};
        int[][] due = {waits, on, further, delivered};
        for (int hour = 0; hour < 4; hour++) {
            for (int what = 0; what < 7; what++) {
                C.due("hour " + hour + " of(0, " + what + ")", x.of(0, what), due[hour][what]);
            }
            x.run(1);
        }
        C.due("of(1, 0)", x.of(1, 0), IceRoad.BEYOND);
        C.due("of(-1, 9)", x.of(-1, 9), IceRoad.BEYOND);
        C.due("of(0, 7)", x.of(0, 7), IceRoad.NO);
        C.due("of(0, -1)", x.of(0, -1), IceRoad.NO);
        x.load(1, 0, 0);
        x.turn(1);
        C.due("turned back", x.of(1, 3), 4);
        C.due("its hour", x.of(1, 6), -1);
        IceRoad y = new IceRoad();
        y.cell(20, 3, false);
        y.thick(2, 900);
        y.weather(0, 0);
        y.load(5, 0, 1);
        y.run(3);
        C.due("hours there", y.of(0, 5), 2);
        C.due("cell", y.of(0, 4), 2);
        y.run(1);
        C.due("broken in on the next", y.of(0, 3), 3);
        C.due("in hour", y.of(0, 6), 3);
        C.due("no hours there", y.of(0, 5), -1);
    }

    private static void mayAndWhy() {
        IceRoad x = road();
        x.load(5, 0, 0);
        C.due("may beyond load", x.may(1, 0), IceRoad.BEYOND);
        C.due("may beyond load below", x.may(-1, 0), IceRoad.BEYOND);
        C.due("may beyond cell", x.may(0, 2), IceRoad.BEYOND);
        C.due("may beyond cell below", x.may(0, -1), IceRoad.BEYOND);
        C.due("why beyond load", x.why(1, 0), IceRoad.BEYOND);
        C.due("why beyond cell", x.why(0, 2), IceRoad.BEYOND);
        C.due("why beyond cell below", x.why(0, -1), IceRoad.BEYOND);
        C.due("may", x.may(0, 0), 1);
        C.due("why", x.why(0, 0), 0);
        Check.ruleOf(x, "thick 500", 0, 100000);
        C.due("may, thick", x.may(0, 0), 0);
        C.due("why, thick", x.why(0, 0), 2);
        x.thick(0, 500);
        x.read(0);
        C.due("thick enough", x.why(0, 0), 0);
        x.thick(0, 499);
        x.read(0);
        C.due("too thin", x.why(0, 0), 2);
        x.thick(0, 900);
        x.read(0);
        x.run(1);
        C.due("came an hour ago", x.why(0, 0), 0);
        Check.ruleOf(x, "gap 2", 0, 100000);
        C.due("why, gap", x.why(0, 0), 3);
        C.due("may, gap", x.may(0, 0), 0);
        x.thick(0, 100);
        x.read(0);
        C.due("thick ahead of gap", x.why(0, 0), 2);
        Check.ruleOf(x, "stop 9", 0, 100000);
        C.due("stop ahead of thick", x.why(0, 0), 1);
        C.due("may, stop", x.may(0, 0), 0);
        Check.ruleOf(x, "stop 0", 0, 100000);
        C.due("stop 0 doesn't stop", x.why(0, 0), 2);
    }

    private static void turn() {
        IceRoad x = road();
        C.due("turn(0) of none", x.turn(0), IceRoad.BEYOND);
        x.load(1, 0, 0);
        x.load(1, 0, 0);
        x.load(1, 0, 1);
        C.due("turn(-1)", x.turn(-1), IceRoad.BEYOND);
        C.due("turn(3)", x.turn(3), IceRoad.BEYOND);
        C.due("turn(1)", x.turn(1), 2);
        C.due("turned back", x.of(1, 3), 4);
        C.due("turn(1) again", x.turn(1), IceRoad.NO);
        x.run(1);
        C.due("turn one on a cell", x.turn(0), IceRoad.NO);
        x.run(9);
        C.due("turn a delivered one", x.turn(0), IceRoad.NO);
        C.due("delivered", x.count(7), 2);
        C.due("turned", x.count(9), 1);
    }

    private static void run() {
        IceRoad x = road(20);
        C.due("run(-1)", x.run(-1), IceRoad.BELOW);
        C.due("run(min)", x.run(Integer.MIN_VALUE), IceRoad.BELOW);
        C.due("run(0)", x.run(0), IceRoad.NO);
        C.due("run(201)", x.run(201), IceRoad.NO);
        C.due("hour", x.count(0), 0);
        x.load(10, 0, 0);
        x.load(20, 0, 0);
        x.load(30, 0, 1);
        C.due("three hours", x.run(3), 0);
        C.due("the fourth", x.run(1), 2);
        C.due("tons", x.count(10), 40);
        C.due("the fifth", x.run(1), 1);
        C.due("tons then", x.count(10), 60);
        C.due("delivered in", x.of(1, 6), 4);
        C.due("200 hours", x.run(200), 0);
        C.due("hour then", x.count(0), 205);
        IceRoad y = road();
        y.load(1, 0, 0);
        y.load(1, 0, 0);
        C.due("one call counts its own", y.run(200), 2);
        C.due("and no others", y.run(200), 0);
    }

    private static void ranks() {
        IceRoad x = road();
        x.load(1, 2, 0);
        x.load(2, 7, 0);
        x.load(3, 2, 0);
        x.load(4, 9, 0);
        x.load(5, 7, 0);
        int[] due = {3, 1, 4, 0, 2};
        for (int hour = 0; hour < 5; hour++) {
            x.run(1);
            C.due("onto the road in hour " + hour, x.of(due[hour], 4), 0);
        }
        // one that goes first finds the next cell taken by one of a lower rank, which leaves it too late
        IceRoad y = new IceRoad();
        y.thick(0, 2000);
        y.thick(1, 2000);
        y.weather(0, 0);
        y.load(1, 1, 0);
        y.run(1);
        y.load(1, 5, 0);
        y.run(1);
        C.due("the lower one is ahead", y.of(0, 4), 1);
        C.due("the greater one follows", y.of(1, 4), 0);
        y.run(1);
        C.due("the lower one is delivered", y.of(0, 3), 2);
        C.due("the greater one was held up", y.of(1, 4), 0);
        C.due("for an hour", y.of(1, 5), 1);
        y.run(1);
        C.due("then it goes on", y.of(1, 4), 1);
        // by equal ranks the one of the lower number leaves first, and the other follows in the same hour
        IceRoad z = road();
        z.load(1, 5, 0);
        z.load(1, 5, 0);
        z.run(2);
        C.due("first on 1", z.of(0, 4), 1);
        C.due("second on 0", z.of(1, 4), 0);
        z.run(1);
        C.due("second on 1", z.of(1, 4), 1);
    }

    private static void shore() {
        for (int depth = 9; depth <= 10; depth++) {
            IceRoad x = road();
            x.cell(depth, 4, false);
            x.thick(2, 2000);
            x.load(1, 0, 1);
            x.load(1, 9, 0);
            x.run(3);
            C.due("one is on depth " + depth, x.of(0, 4), 2);
            C.due("the other one meets it on depth " + depth, x.of(1, 4), depth == 9 ? 1 : 2);
        }

        IceRoad z = new IceRoad();
        z.cell(9, 4, false);
        for (int i = 0; i < 3; i++) {
            z.thick(i, 2000);
        }
        z.weather(0, 0);
        z.load(1, 0, 1);
        z.load(1, 0, 0);
        z.run(3);
        C.due("on shore", z.of(0, 4), 2);
        C.due("one waits ahead of it", z.of(1, 4), 1);
        z.run(1);
        C.due("it waits still", z.of(1, 4), 1);
        C.due("2 hours", z.of(1, 5), 2);
        z.run(1);
        C.due("down from the shore", z.of(0, 4), 1);
        // of equal ranks load 0 left first in that hour, so load 1 found the shore free
        C.due("onto the shore", z.of(1, 4), 2);
        C.due("may tells of rules alone", z.may(0, 2), 1);

        IceRoad p = new IceRoad();
        p.cell(5, 4, true);
        p.thick(0, 2000);
        p.thick(1, 2000);
        p.weather(0, 0);
        p.load(1, 0, 1);
        p.load(1, 9, 0);
        p.run(4);
        C.due("a portage near shore is shore", p.of(1, 4), 1);
        C.due("load on the portage", p.look(2, 9), 1);
    }

    private static void gaps() {
        IceRoad x = road();
        Check.ruleOf(x, "gap 3 if cell=0", 0, 100000);
        x.load(1, 0, 0);
        x.load(1, 0, 0);
        x.load(1, 0, 1);
        x.run(1);
        C.due("down isn't held by up", x.of(2, 4), 1);
        x.run(1);
        C.due("no one came down onto 0 ahead", x.of(2, 4), 0);
        C.due("gap holds", x.why(1, 0), 3);
        x.run(1);
        C.due("two hours went", x.of(1, 3), 0);
        C.due("three went", x.why(1, 0), 0);
        x.run(1);
        C.due("onto it", x.of(1, 4), 0);

        IceRoad d = road();
        Check.ruleOf(d, "gap 3 if cell=1", 0, 100000);
        d.load(1, 0, 1);
        d.load(1, 0, 1);
        d.run(3);
        C.due("down holds down", d.of(1, 3), 0);
        d.run(1);
        C.due("for three hours", d.of(1, 4), 1);

        IceRoad y = new IceRoad();
        y.weather(0, 0);
        y.load(99, 0, 0);
        y.load(99, 0, 0);
        y.run(1);
        C.due("one that breaks in came, too", y.of(1, 3), 0);
        IceRoad z = new IceRoad();
        z.weather(0, 0);
        Check.ruleOf(z, "gap 0", 0, 100000);
        z.load(99, 0, 0);
        z.load(99, 0, 0);
        z.run(1);
        C.due("gap 0: in the same hour", z.count(8), 2);
    }

    private static void wear() {
        IceRoad x = new IceRoad();
        x.cell(20, 1, true);
        x.thick(0, 300);
        x.thick(1, 2000);
        x.weather(0, 0);
        for (int i = 0; i < 34; i++) {
            x.load(9, 0, 0);
        }
        C.due("24 loads", x.count(2), 24);
        x.run(24);
        C.due("wear of 0", x.look(0, 5), 216);
        C.due("ice", x.look(0, 0), 0);
        x.thick(0, 216);
        x.run(10);
        C.due("wear alone cracks nothing", x.look(0, 0), 0);
        C.due("a portage wears", x.look(2, 5), 216);
        C.due("a portage doesn't crack", x.look(2, 0), 4);
        C.due("delivered", x.count(7), 24);
        C.due("tons", x.count(10), 216);
        C.due("no load is on 0", x.look(0, 9), 0);

        IceRoad z = new IceRoad();
        z.thick(0, 490);
        z.thick(1, 2000);
        z.weather(0, 0);
        for (int i = 0; i < 24; i++) {
            z.load(24, 0, 0);
        }
        z.read(0);
        z.run(20);
        C.due("480 of 490", z.look(0, 5), 480);
        C.due("ice still", z.look(0, 0), 0);
        C.due("known still", z.look(0, 7), 490);
        z.run(1);
        C.due("504: cracked", z.look(0, 0), 3);
        C.due("wear 0", z.look(0, 5), 0);
        C.due("healing 0", z.look(0, 6), 0);
        C.due("the load stays on", z.of(20, 4), 0);
        C.due("not known", z.look(0, 8), 3000);
        z.run(1);
        C.due("cracked bears 12 alone", z.of(21, 3), 3);
        C.due("the load ahead went on", z.of(20, 4), 1);

        IceRoad e = new IceRoad();
        e.thick(0, 480);
        e.thick(1, 2000);
        e.weather(0, 0);
        for (int i = 0; i < 24; i++) {
            e.load(20, 0, 0);
        }
        e.run(23);
        C.due("460 of 480", e.look(0, 5), 460);
        e.run(1);
        C.due("480 of 480: cracked", e.look(0, 0), 3);
        C.due("no load broke in", e.count(8), 0);
    }

    private static void breakingIn() {
        IceRoad x = new IceRoad();
        x.thick(0, 700);
        x.thick(1, 700);
        x.weather(0, 0);
        x.load(49, 0, 1);
        x.run(1);
        x.read(0);
        x.load(50, 0, 0);
        x.run(1);
        C.due("the light one came first", x.of(0, 4), 0);
        C.due("the heavy one broke in", x.of(1, 3), 3);
        C.due("in hour 1", x.of(1, 6), 1);
        C.due("it is on no cell", x.of(1, 4), -1);
        C.due("no hours", x.of(1, 5), -1);
        C.due("cracked", x.look(0, 0), 3);
        C.due("wear 0", x.look(0, 5), 0);
        C.due("not known", x.look(0, 7), 0);
        C.due("the light one stays on", x.look(0, 9), 1);
        C.due("it is delivered", x.run(1), 1);
        C.due("broken in", x.count(8), 1);
        C.due("tons", x.count(10), 49);
    }

    private static void thaw() {
        IceRoad x = new IceRoad();
        C.due("weight 0", x.thaw(0, 0), IceRoad.NO);
        C.due("weight 100", x.thaw(100, 0), IceRoad.NO);
        C.due("heat -601", x.thaw(1, -601), IceRoad.NO);
        C.due("heat 301", x.thaw(1, 301), IceRoad.NO);
        C.due("not now", x.thaw(1, -600), 0);
        x.cell(20, 1, true);
        x.thick(0, 700);
        x.thick(1, 702);
        C.due("at 0", x.thaw(49, 0), 500);
        C.due("at -600", x.thaw(49, -600), 500);
        C.due("after the first hour not", x.thaw(49, 1), 0);
        C.due("too heavy now", x.thaw(50, -600), 0);
        x.thick(0, 702);
        C.due("two hours", x.thaw(49, 9), 2);
        C.due("at 10, two an hour", x.thaw(49, 10), 1);
        C.due("at 300", x.thaw(1, 300), (702 - 100) / 31);
        x.thick(1, 701);
        C.due("the first cell that fails counts", x.thaw(49, 1), 1);
        x.thick(0, 600);
        x.thick(1, 3000);
        C.due("500 hours to 100", x.thaw(1, 1), 500);
        x.thick(0, 599);
        C.due("behind the 500th not", x.thaw(1, 1), 499);
        C.due("nothing changed", x.look(0, 1), 599);
        C.due("no hour went", x.count(0), 0);
        IceRoad y = new IceRoad();
        y.weather(0, 0);
        y.thick(1, 2000);
        y.load(99, 0, 0);
        y.run(1);
        y.thick(0, 702);
        C.due("cracked bears half", y.thaw(25, 0), 0);
        C.due("cracked", y.thaw(24, 1), 9);
        y.thaw(1, -600);
        C.due("it didn't heal", y.look(0, 6), 0);
        C.due("cracked still", y.look(0, 0), 3);
    }
}
