import java.util.ArrayList;
import java.util.List;

/** All that the calls tell of a road, now and in later hours; the road is used up by it. */
final class View {
    /** A scene's own calls and these stay under the 512 that an object is used for. */
    static final int MOST_CALLS = 467;

    final int[] statuses = new int[7];
    final List<String> lines = new ArrayList<>();
    private final IceRoad x;
    private int calls = 0;

    View(IceRoad x) {
        this.x = x;
        for (int i = 0; i < 7; i++) {
            statuses[i] = x.status(-2 - i);
        }
        calls += 7;
        int cells = x.count(1);
        int loads = Math.min(x.count(2), cells > 2 ? 8 : 24);
        calls += 2;
        seeCounts();
        seeCells(cells);
        seeLoads(loads, 0);
        seeRules(Math.min(loads, 5), Math.min(cells, 5));
        if (loads == 0) {
            // without loads nothing else tells in time whether one is taken to have come
            seeNewLoad();
        }
        x.run(1);
        seeCells(cells);
        seeLoads(loads, 3);
        if (cells + loads < 11) {
            x.run(30);
            seeCells(cells);
            seeLoads(loads, 3);
        }
        seeWeather();
        seeTape(loads);
        if (loads > 0) {
            seeNewLoad();
        }
        seeRow();
        if (calls > MOST_CALLS) {
            throw new IllegalStateException("a view of " + calls + " calls");
        }
    }

    private void add(String call, int answer) {
        calls++;
        lines.add(lines.size() + ": " + call + " = " + answer);
    }

    private void seeCounts() {
        for (int what = 0; what <= 10; what++) {
            add("count(" + what + ")", x.count(what));
        }
    }

    private void seeCells(int cells) {
        for (int c = 0; c < cells; c++) {
            for (int what = 0; what <= 9; what++) {
                add("look(" + c + ", " + what + ")", x.look(c, what));
            }
        }
    }

    private void seeLoads(int loads, int from) {
        for (int l = 0; l < loads; l++) {
            for (int what = from; what <= 6; what++) {
                add("of(" + l + ", " + what + ")", x.of(l, what));
            }
        }
    }

    /** What a load finds that comes now, if there is room for one. */
    private void seeNewLoad() {
        int load = x.load(7, 3, 0);
        add("load", load);
        for (int what = 0; what <= 6 && load >= 0; what++) {
            add("of(" + load + ", " + what + ")", x.of(load, what));
        }
        add("why(" + load + ", 0)", x.why(load, 0));
    }

    /** Comes last, as a row that is missing refuses to be seen; it is seen then as the next number finds it. */
    private void seeRow() {
        int before = x.status(IceRoad.MISSING);
        add("row(0)", x.row(0));
        int missing = x.status(IceRoad.MISSING) - before;
        add("row(0) was missing", missing);
        if (missing != 0) {
            x.tell(0, 1);
        }
        for (int i = 0; i < 48; i++) {
            add("row(" + i + ")", x.row(i));
        }
    }

    private void seeRules(int loads, int cells) {
        for (int l = 0; l < loads; l++) {
            for (int c = 0; c < cells; c++) {
                add("said(" + l + ", " + c + ", thick)", x.said(l, c, 0));
                add("said(" + l + ", " + c + ", gap)", x.said(l, c, 1));
                add("why(" + l + ", " + c + ")", x.why(l, c));
            }
        }
    }

    private void seeWeather() {
        for (int hour = 0; hour < 48; hour++) {
            add("weather(" + hour + ")", x.weather(hour, -9999));
        }
    }

    /** A fault tells of each byte ahead of it; the scenes' tapes begin a rule that the bytes fed here end. */
    private void seeTape(int loads) {
        add("rule", x.rule(0, 100000));
        add("feed", x.feed('n' << 24 | 'k' << 16 | '>' << 8 | '0', 4));
        add("rule", x.rule(0, 100000));
        for (int l = 0; l < Math.min(loads, 2); l++) {
            add("said(" + l + ", 0, stop)", x.said(l, 0, 2));
        }
    }
}
