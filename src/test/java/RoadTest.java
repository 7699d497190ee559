/** Promises 1 to 13: the road. */
public final class RoadTest {
    private static final Check C = new Check("RoadTest");

    public static void main(String[] args) {
        newObject();
        cell();
        look();
        thick();
        read();
        spans();
        bears();
        weather();
        cold();
        heat();
        growth();
        melting();
        healing();
        sweep();
        flood();
        bypass();
        snow();
        C.end();
    }

    /** A road whose cell 0 was broken into in hour 0, at heat 0, with the thickness told. */
    private static IceRoad broken(int thickness) {
        IceRoad x = new IceRoad();
        x.weather(0, 0);
        x.thick(0, thickness);
        x.load(99, 0, 0);
        x.run(1);
        return x;
    }

    private static void newObject() {
        int[] due = {0, 0, 0, 20, 1, 0, -1, 0, 3000, 0};
        IceRoad x = new IceRoad();
        for (int cell = 0; cell < 2; cell++) {
            for (int what = 0; what < due.length; what++) {
                C.due("new look(" + cell + ", " + what + ")", x.look(cell, what), due[what]);
            }
        }
        int[] counts = {0, 2, 0, 0, 0, 0, 0, 0, 0, 0, 0};
        for (int what = 0; what < counts.length; what++) {
            C.due("new count(" + what + ")", x.count(what), counts[what]);
        }
        C.due("new wipe", x.wipe(), 0);
        C.due("new tear", x.tear(), 0);
        for (int by = -8; by <= -2; by++) {
            C.due("new status(" + by + ")", x.status(by), 0);
        }
        for (int hour = 0; hour < 48; hour++) {
            C.due("new weather", x.weather(hour, -9999), -9999);
        }
    }

    private static void cell() {
        IceRoad x = new IceRoad();
        C.due("cell depth 0", x.cell(0, 1, false), IceRoad.NO);
        C.due("cell depth 61", x.cell(61, 1, false), IceRoad.NO);
        C.due("cell length 0", x.cell(1, 0, false), IceRoad.NO);
        C.due("cell length 5", x.cell(1, 5, true), IceRoad.NO);
        C.due("cell 2", x.cell(1, 1, false), 2);
        C.due("cell 3", x.cell(60, 4, true), 3);
        C.due("kind 2", x.look(2, 0), 0);
        C.due("kind 3", x.look(3, 0), 4);
        C.due("thickness 2", x.look(2, 1), 0);
        C.due("depth 2", x.look(2, 3), 1);
        C.due("depth 3", x.look(3, 3), 60);
        C.due("length 3", x.look(3, 4), 4);
        C.due("healing 3", x.look(3, 6), -1);
        for (int i = 4; i < 10; i++) {
            C.due("cell " + i, x.cell(5, 2, false), i);
        }
        C.due("cell 10", x.cell(5, 2, false), IceRoad.FULL);
        C.due("cell no ahead of full", x.cell(0, 2, false), IceRoad.NO);
        C.due("cells", x.count(1), 10);
        x.load(1, 0, 0);
        C.due("cell with loads ahead of full", x.cell(5, 2, false), IceRoad.NO);
        IceRoad late = new IceRoad();
        late.snow(40);
        late.run(3);
        C.due("a late cell", late.cell(3, 3, false), 2);
        C.due("its thickness", late.look(2, 1), 0);
        C.due("its snow", late.look(2, 2), 0);
        IceRoad y = new IceRoad();
        y.load(1, 0, 0);
        y.turn(0);
        C.due("cell with a load turned back", y.cell(5, 2, false), IceRoad.NO);
        C.due("status", y.status(IceRoad.NO), 1);
    }

    private static void look() {
        IceRoad x = new IceRoad();
        C.due("look(-1, 0)", x.look(-1, 0), IceRoad.BEYOND);
        C.due("look(2, 0)", x.look(2, 0), IceRoad.BEYOND);
        C.due("look(2, 10)", x.look(2, 10), IceRoad.BEYOND);
        C.due("look(0, 10)", x.look(0, 10), IceRoad.NO);
        C.due("look(0, -1)", x.look(0, -1), IceRoad.NO);
        C.due("look(min, 0)", x.look(Integer.MIN_VALUE, 0), IceRoad.BEYOND);
        C.due("look(max, 0)", x.look(Integer.MAX_VALUE, 0), IceRoad.BEYOND);
        x.thick(1, 500);
        x.thick(0, 500);
        x.weather(0, 0);
        x.load(5, 0, 1);
        x.load(7, 0, 0);
        x.run(1);
        C.due("loads on 1", x.look(1, 9), 1);
        C.due("wear of 1", x.look(1, 5), 5);
        C.due("wear of 0", x.look(0, 5), 7);
        x.run(1);
        C.due("both are on", x.look(0, 9) + x.look(1, 9), 2);
        C.due("wear of 1 by both", x.look(1, 5), 12);
    }

    private static void thick() {
        IceRoad x = new IceRoad();
        x.cell(20, 1, true);
        C.due("thick(0, 3000)", x.thick(0, 3000), 0);
        C.due("thick(0, 0)", x.thick(0, 0), 3000);
        C.due("thick(0, 1)", x.thick(0, 1), 0);
        C.due("thick(0, -1)", x.thick(0, -1), IceRoad.NO);
        C.due("thick(0, 3001)", x.thick(0, 3001), IceRoad.NO);
        C.due("thickness after refusals", x.look(0, 1), 1);
        C.due("thick(3, 5)", x.thick(3, 5), IceRoad.BEYOND);
        C.due("thick(-1, 5000)", x.thick(-1, 5000), IceRoad.BEYOND);
        C.due("thick(2, 5)", x.thick(2, 5), IceRoad.KIND);
        C.due("thick(2, 5000)", x.thick(2, 5000), IceRoad.KIND);
    }

    private static void read() {
        IceRoad x = new IceRoad();
        x.cell(20, 1, true);
        x.thick(0, 444);
        C.due("read(0)", x.read(0), 444);
        x.thick(0, 555);
        C.due("known stays as read", x.look(0, 7), 444);
        C.due("most too", x.look(0, 8), 444);
        C.due("read again", x.read(0), 555);
        C.due("known anew", x.look(0, 7), 555);
        C.due("read(2)", x.read(2), IceRoad.KIND);
        C.due("read(3)", x.read(3), IceRoad.BEYOND);
        C.due("read(-1)", x.read(-1), IceRoad.BEYOND);
        C.due("a read of thickness 0 is known", x.read(1), 0);
        C.due("most of it", x.look(1, 8), 0);
    }

    private static void spans() {
        IceRoad x = new IceRoad();
        x.cell(20, 1, false);
        x.cell(20, 1, true);
        x.cell(20, 1, false);
        x.cell(20, 1, false);
        x.thick(4, 333);
        x.read(4);
        C.due("half, over a portage", x.look(2, 7), 166);
        C.due("most, over a portage", x.look(2, 8), 333);
        C.due("from before", x.look(5, 7), 166);
        C.due("most from before", x.look(5, 8), 333);
        C.due("portage least", x.look(3, 7), 3000);
        C.due("portage most", x.look(3, 8), 3000);
        x.thick(0, 900);
        x.read(0);
        C.due("lesser", x.look(1, 7), 333);
        C.due("greater", x.look(1, 8), 900);
        x.thick(2, 700);
        x.read(2);
        C.due("nearest lesser", x.look(1, 7), 700);
        C.due("nearest greater", x.look(1, 8), 900);
        x.sweep(2);
        C.due("forgotten by another kind", x.look(2, 7), 333);
        x.read(2);
        x.sweep(2);
        C.due("swept once more it is known still", x.look(2, 7), 700);
        x.flood(2);
        C.due("forgotten by flooding", x.look(2, 7), 333);
        x.read(2);
        x.flood(2);
        C.due("flooded once more it is known still", x.look(2, 7), 700);
        x.snow(1);
        C.due("forgotten by snow", x.look(2, 7), 333);
        C.due("ice stays known under snow", x.look(0, 7), 900);

        IceRoad y = broken(0);
        C.due("read of cracked", y.read(0), 0);
        y.thick(0, 50);
        y.load(99, 0, 0);
        y.run(1);
        C.due("broken in twice", y.count(8), 2);
        C.due("cracked again it is known still", y.look(0, 8), 0);
    }

    private static void bears() {
        IceRoad x = new IceRoad();
        x.cell(20, 1, true);
        x.thick(0, 100);
        C.due("100 bears 1", x.bears(0, 1), 1);
        C.due("100 bears 2", x.bears(0, 2), 0);
        x.thick(0, 99);
        C.due("99 bears 1", x.bears(0, 1), 0);
        x.thick(0, 995);
        C.due("995 bears 99", x.bears(0, 99), 1);
        x.thick(0, 994);
        C.due("994 bears 99", x.bears(0, 99), 0);
        x.thick(0, 3000);
        C.due("3000 bears 99", x.bears(0, 99), 1);
        C.due("a portage bears", x.bears(2, 99), 1);
        C.due("weight 0", x.bears(0, 0), IceRoad.NO);
        C.due("weight 100", x.bears(0, 100), IceRoad.NO);
        C.due("weight 100 of a portage", x.bears(2, 100), IceRoad.NO);
        C.due("cell ahead of weight", x.bears(3, 100), IceRoad.BEYOND);
        C.due("cell -1", x.bears(-1, 1), IceRoad.BEYOND);
        IceRoad y = broken(700);
        C.due("cracked", y.look(0, 0), 3);
        C.due("cracked 700 bears 24", y.bears(0, 24), 1);
        C.due("cracked 700 bears 25", y.bears(0, 25), 0);
    }

    private static void weather() {
        IceRoad x = new IceRoad();
        C.due("weather(0, -600)", x.weather(0, -600), -9999);
        C.due("weather(0, 300)", x.weather(0, 300), -600);
        C.due("weather(0, -9999)", x.weather(0, -9999), 300);
        C.due("weather(0, 0)", x.weather(0, 0), -9999);
        C.due("weather(47, 1)", x.weather(47, 1), -9999);
        C.due("weather(0, -601)", x.weather(0, -601), 0);
        C.due("weather(0, 301)", x.weather(0, 301), 0);
        C.due("status no", x.status(IceRoad.NO), 2);
        C.due("weather(48, 0)", x.weather(48, 0), 0);
        C.due("weather(-1, 5000)", x.weather(-1, 5000), 0);
        C.due("status beyond", x.status(IceRoad.BEYOND), 2);
        C.due("status no still", x.status(IceRoad.NO), 2);
        C.due("nothing changed", x.weather(0, 5), 0);
    }

    private static void cold() {
        IceRoad x = new IceRoad();
        x.weather(3, -77);
        C.due("cold without row", x.cold(), IceRoad.MISSING);
        C.due("weather stays", x.heat(3), -77);
        x.tell(0, -600);
        x.tell(1, -601);
        x.tell(2, 300);
        x.tell(3, 301);
        x.tell(4, -9999);
        x.tell(5, 9999);
        C.due("cold", x.cold(), 44);
        C.due("hour 0", x.weather(0, 1), -600);
        C.due("hour 1", x.weather(1, 1), -9999);
        C.due("hour 2", x.weather(2, 1), 300);
        C.due("hour 3", x.weather(3, 1), -9999);
        C.due("hour 4", x.weather(4, 1), -9999);
        C.due("hour 5", x.weather(5, 1), -9999);
        C.due("hour 6", x.weather(6, 1), 0);
        C.due("the row stays", x.row(5), 9999);
        for (int i = 0; i < 48; i++) {
            x.tell(i, 301);
        }
        C.due("cold of gaps", x.cold(), 0);
        C.due("heat of gaps", x.heat(0), -100);
    }

    private static void heat() {
        IceRoad x = new IceRoad();
        C.due("all gaps", x.heat(0), -100);
        x.weather(10, -500);
        C.due("one number", x.heat(10), -500);
        C.due("round behind", x.heat(11), -500);
        C.due("round before", x.heat(9), -500);
        C.due("another day", x.heat(48), -500);
        x.weather(40, -300);
        C.due("between", x.heat(20), -300);
        C.due("round the end", x.heat(45), -300);
        C.due("round the start", x.heat(3), -300);
        x.weather(20, -550);
        C.due("nearest on both sides", x.heat(15), -500);
        C.due("nearest behind 20", x.heat(21), -300);
        C.due("far hour", x.heat(Integer.MAX_VALUE), x.heat(Integer.MAX_VALUE % 48));
        C.due("48 times 1000 + 20", x.heat(48020), -550);
        C.due("heat(-1)", x.heat(-1), 0);
        C.due("heat(min)", x.heat(Integer.MIN_VALUE), 0);
        C.due("status beyond", x.status(IceRoad.BEYOND), 2);
    }

    private static void growth() {
        IceRoad x = new IceRoad();
        x.cell(20, 1, false);
        x.cell(20, 1, true);
        x.snow(50);
        x.sweep(1);
        x.sweep(2);
        x.flood(2);
        x.run(1);
        C.due("under snow", x.look(0, 1), 1000 / 250);
        C.due("swept", x.look(1, 1), 10);
        C.due("flooded", x.look(2, 1), 20);
        C.due("portage", x.look(3, 1), 0);
        x.run(1);
        C.due("under snow again", x.look(0, 1), 8);
        C.due("swept again", x.look(1, 1), 10 + 1000 / 101);
        C.due("flooded again", x.look(2, 1), 20 + 2000 / 102);
        x.weather(0, -600);
        x.thick(0, 2999);
        x.thick(1, 2000);
        x.run(1);
        C.due("3000 at most", x.look(0, 1), 3000);
        C.due("thick ice", x.look(1, 1), 2000 + 6000 / 300);
        IceRoad y = broken(0);
        y.weather(0, -100);
        y.run(1);
        C.due("cracked", y.look(0, 1), 5);
        y.snow(100);
        y.thick(0, 100);
        y.run(1);
        C.due("cracked under snow", y.look(0, 1), 100 + 500 / 410);
        y.weather(0, -1);
        y.thick(1, 0);
        y.run(1);
        C.due("too little to grow", y.look(1, 1), 0);
    }

    private static void melting() {
        int[] heats = {1, 9, 10, 19, 300, 0};
        int[] less = {1, 1, 2, 2, 31, 0};
        for (int i = 0; i < heats.length; i++) {
            IceRoad x = new IceRoad();
            x.cell(20, 1, true);
            x.weather(5, heats[i]);
            x.thick(0, 500);
            x.thick(1, 1);
            x.run(1);
            C.due("at " + heats[i], x.look(0, 1), 500 - less[i]);
            C.due("thin at " + heats[i], x.look(1, 1), Math.max(0, 1 - less[i]));
            C.due("portage at " + heats[i], x.look(2, 1), 0);
        }
    }

    private static void healing() {
        IceRoad x = broken(0);
        C.due("healing at first", x.look(0, 6), 0);
        C.due("healing of ice", x.look(1, 6), -1);
        x.weather(0, -100);
        x.run(5);
        C.due("not at -100", x.look(0, 6), 0);
        x.weather(0, -101);
        x.run(1);
        C.due("at -101", x.look(0, 6), 1);
        x.weather(0, 100);
        x.run(1);
        C.due("it keeps its hours", x.look(0, 6), 1);
        x.weather(0, -101);
        x.read(0);
        x.run(22);
        C.due("23 hours", x.look(0, 6), 23);
        C.due("cracked still", x.look(0, 0), 3);
        C.due("known still", x.look(0, 7) == x.look(0, 8) ? 1 : 0, 1);
        x.thick(0, 1000);
        x.weather(0, 0);
        x.load(3, 0, 0);
        x.run(1);
        C.due("wear of cracked", x.look(0, 5), 3);
        x.weather(0, -101);
        x.run(1);
        C.due("healed", x.look(0, 0), 0);
        C.due("wear of healed", x.look(0, 5), 0);
        C.due("healing of healed", x.look(0, 6), -1);
        C.due("healed is not known", x.look(0, 8), 3000);
        C.due("it grew as cracked in its last hour", x.look(0, 1), 1000 + 505 / 200);

        IceRoad y = broken(0);
        y.weather(0, -101);
        y.run(10);
        C.due("ten hours", y.look(0, 6), 10);
        y.weather(0, 0);
        y.load(99, 0, 0);
        y.run(1);
        C.due("cracked again: no healing yet", y.look(0, 6), 0);
    }

    private static void sweep() {
        IceRoad x = new IceRoad();
        x.cell(20, 1, true);
        x.snow(30);
        C.due("sweep", x.sweep(0), 1);
        C.due("swept", x.look(0, 0), 1);
        C.due("snow", x.look(0, 2), 0);
        C.due("snow of the other", x.look(1, 2), 30);
        C.due("sweep a swept one", x.sweep(0), 1);
        C.due("swept still", x.look(0, 0), 1);
        C.due("sweep(3)", x.sweep(3), IceRoad.BEYOND);
        C.due("sweep(-1)", x.sweep(-1), IceRoad.BEYOND);
        C.due("sweep a portage", x.sweep(2), IceRoad.KIND);
        x.flood(0);
        C.due("sweep a flooded one", x.sweep(0), IceRoad.KIND);
        C.due("sweep a cracked one", broken(5).sweep(0), IceRoad.KIND);
    }

    private static void flood() {
        IceRoad x = new IceRoad();
        x.cell(20, 1, true);
        C.due("flood ice", x.flood(0), IceRoad.KIND);
        C.due("flood a portage", x.flood(2), IceRoad.KIND);
        C.due("flood(3)", x.flood(3), IceRoad.BEYOND);
        C.due("flood(-1)", x.flood(-1), IceRoad.BEYOND);
        x.sweep(0);
        C.due("flood a swept one", x.flood(0), 1);
        C.due("flooded", x.look(0, 0), 2);
        C.due("flood a flooded one", x.flood(0), 1);
        C.due("flooded still", x.look(0, 0), 2);
        C.due("flood a cracked one", broken(5).flood(0), IceRoad.KIND);
    }

    private static void bypass() {
        IceRoad x = broken(501);
        x.snow(20);
        x.read(0);
        C.due("bypass(2)", x.bypass(2), IceRoad.BEYOND);
        C.due("bypass(-1)", x.bypass(-1), IceRoad.BEYOND);
        C.due("bypass ice", x.bypass(1), IceRoad.KIND);
        C.due("bypass", x.bypass(0), 250);
        C.due("swept", x.look(0, 0), 1);
        C.due("thickness", x.look(0, 1), 250);
        C.due("snow", x.look(0, 2), 0);
        C.due("wear", x.look(0, 5), 0);
        C.due("healing", x.look(0, 6), -1);
        C.due("not known", x.look(0, 8), 3000);
        C.due("bypass a swept one", x.bypass(0), IceRoad.KIND);
        IceRoad y = broken(500);
        y.thick(0, 1500);
        y.load(9, 0, 0);
        y.run(1);
        C.due("a load is on it", y.bypass(0), IceRoad.NO);
        C.due("wear by it", y.look(0, 5), 9);
        C.due("cracked still", y.look(0, 0), 3);
        y.run(1);
        C.due("it broke in further on", y.count(8), 2);
        C.due("the load is gone: wear 0", y.bypass(0) >= 0 ? y.look(0, 5) : -1, 0);
    }

    private static void snow() {
        IceRoad x = new IceRoad();
        x.cell(20, 1, false);
        x.cell(20, 1, true);
        x.sweep(0);
        x.sweep(1);
        x.flood(1);
        C.due("snow(0)", x.snow(0), IceRoad.NO);
        C.due("snow(101)", x.snow(101), IceRoad.NO);
        C.due("snow(-1)", x.snow(-1), IceRoad.NO);
        C.due("kind after refusals", x.look(0, 0), 1);
        C.due("snow(1)", x.snow(1), 2);
        C.due("kind 0", x.look(0, 0), 0);
        C.due("kind 1", x.look(1, 0), 0);
        C.due("snow of a portage", x.look(3, 2), 0);
        C.due("portage still", x.look(3, 0), 4);
        C.due("snow(100)", x.snow(100), 0);
        C.due("101", x.look(2, 2), 101);
        x.snow(100);
        C.due("200 at most", x.look(2, 2), 200);
        IceRoad y = broken(5);
        C.due("snow on a cracked one", y.snow(7), 0);
        C.due("cracked still", y.look(0, 0), 3);
        C.due("its snow", y.look(0, 2), 7);
    }
}
