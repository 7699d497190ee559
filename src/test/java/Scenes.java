import java.util.function.Consumer;
import java.util.function.ToIntFunction;

/** Roads in states in which calls are refused, and the check that a refused call changes nothing but status. */
final class Scenes {
    private final Check check;

    Scenes(Check check) {
        this.check = check;
    }

    static void bare(IceRoad x) {
    }

    /**
     * Cells 0 ICE with load 4 on it, 1 SWEPT, 2 FLOODED, 3 CRACKED, 4 PORTAGE; load 0 WAITS, 1 is DELIVERED, 2 BROKEN
     * IN, 3 TURNED BACK, 4 on a cell; a row, weather, two rules, and a tape that begins a third.
     */
    static void busy(IceRoad x) {
        x.cell(5, 2, false);
        x.cell(20, 1, false);
        x.cell(9, 1, true);
        for (int c = 0; c < 4; c++) {
            x.thick(c, c == 3 ? 800 : 1500);
        }
        x.weather(0, 0);
        x.weather(9, -200);
        x.tell(3, -150);
        x.tell(4, 500);
        Check.ruleOf(x, "stop 2 if rank=0", 0, 12);
        x.load(10, 0, 0);
        x.load(30, 5, 1);
        x.load(99, 3, 1);
        x.load(1, 9, 1);
        x.turn(3);
        x.snow(20);
        x.run(7);
        x.load(10, 8, 0);
        x.run(1);
        x.sweep(1);
        x.sweep(2);
        x.flood(2);
        x.read(0);
        x.read(3);
        x.thick(3, 350);
        Check.ruleOf(x, "gap 30 if cell=0", 8, 40);
        Check.type(x, "stop 1 if ra");
    }

    /** Ten cells, no load. */
    static void tenCells(IceRoad x) {
        for (int c = 2; c < 10; c++) {
            x.cell(60, 4, c == 5);
        }
        x.thick(3, 500);
        x.read(3);
        x.weather(5, -40);
        x.tell(3, 33);
        Check.type(x, "stop 1 if ra");
    }

    /** The busy scene without its row. */
    static void torn(IceRoad x) {
        busy(x);
        x.tear();
    }

    /** 24 loads, of which the first is on a cell. */
    static void allLoads(IceRoad x) {
        x.thick(0, 2000);
        x.thick(1, 2000);
        x.weather(0, 0);
        for (int l = 0; l < 24; l++) {
            x.load(99 - l, l % 10, 0);
        }
        x.run(1);
        x.tell(3, 33);
        Check.type(x, "stop 1 if ra");
    }

    /** The busy scene with as many loads as there may be; all that came late are turned back. */
    static void busyAllLoads(IceRoad x) {
        busy(x);
        for (int l = 5; l < 24; l++) {
            x.load(1, 0, 1);
            x.turn(l);
        }
    }

    /** The busy scene with as many rules as there may be. */
    static void busyAllRules(IceRoad x) {
        busy(x);
        x.wipe();
        for (int i = 2; i < 10; i++) {
            Check.type(x, "gap 9");
            x.rule(99, 100);
        }
        Check.type(x, "stop 1 if ra");
    }

    /** The busy scene with another load on its cracked cell 3, which bears it. */
    static void busyUnderLoad(IceRoad x) {
        busy(x);
        x.thick(3, 1501);
        x.load(9, 9, 1);
        x.run(2);
    }

    /** Ten rules, and a tape that would be an eleventh. */
    static void allRules(IceRoad x) {
        x.load(5, 5, 0);
        for (int i = 0; i < 10; i++) {
            Check.ruleOf(x, "gap 2", 0, 100);
        }
        x.tell(3, 33);
        Check.type(x, "stop 1 if ra");
    }

    /** The busy scene with a tape of as many bytes as told, whose fault, if any, comes late. */
    static Consumer<IceRoad> tapeOf(int bytes) {
        String text = "thick 1234 if weight=-1234 and weight<-1234 and weight>-1234" + "x".repeat(20);
        return x -> {
            busy(x);
            x.wipe();
            Check.type(x, text.substring(0, bytes));
        };
    }

    /** One load, of the state told (0 .. 4). */
    static Consumer<IceRoad> loadOf(int state) {
        return x -> {
            x.weather(0, 0);
            x.thick(0, state == 3 ? 0 : 2000);
            x.thick(1, 2000);
            x.load(20, 4, 0);
            if (state == 4) {
                x.turn(0);
            } else if (state > 0) {
                x.run(state == 2 ? 3 : 1);
            }
        };
    }

    /** The call answers as due, and status tells of one call more that was refused by it; all else is as before. */
    void refused(String call, Consumer<IceRoad> scene, ToIntFunction<IceRoad> asked, int by) {
        unchanged(call, scene, asked, by, by);
    }

    /** Likewise of a call that tells 0. */
    void refusedByZero(String call, Consumer<IceRoad> scene, ToIntFunction<IceRoad> asked, int by) {
        unchanged(call, scene, asked, 0, by);
    }

    /** The call answers as due, and neither status nor anything else is another one behind it. */
    void changesNothing(String call, Consumer<IceRoad> scene, ToIntFunction<IceRoad> asked, int answer) {
        unchanged(call, scene, asked, answer, 0);
    }

    private void unchanged(String call, Consumer<IceRoad> scene, ToIntFunction<IceRoad> asked, int answer, int by) {
        IceRoad untouched = new IceRoad();
        IceRoad touched = new IceRoad();
        scene.accept(untouched);
        scene.accept(touched);
        check.due(call, asked.applyAsInt(touched), answer);
        View before = new View(untouched);
        View behind = new View(touched);
        for (int i = 0; i < 7; i++) {
            int due = before.statuses[i] + (by == -2 - i ? 1 : 0);
            check.due("status(" + (-2 - i) + ") behind " + call, behind.statuses[i], due);
        }
        check.same("behind " + call, behind.lines, before.lines);
    }
}
