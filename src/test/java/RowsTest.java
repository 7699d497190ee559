/** Promises 26 to 30: rows and status. */
public final class RowsTest {
    private static final Check C = new Check("RowsTest");

    public static void main(String[] args) {
        tell();
        tear();
        row();
        copy();
        status();
        C.end();
    }

    private static void tell() {
        IceRoad x = new IceRoad();
        C.due("tell(48, 0)", x.tell(48, 0), IceRoad.BEYOND);
        C.due("tell(-1, 10000)", x.tell(-1, 10000), IceRoad.BEYOND);
        C.due("tell(0, 10000)", x.tell(0, 10000), IceRoad.NO);
        C.due("tell(0, -10000)", x.tell(0, -10000), IceRoad.NO);
        C.due("missing still", x.tear(), 0);
        C.due("tell(47, 9999)", x.tell(47, 9999), 1);
        C.due("tell(0, -9999)", x.tell(0, -9999), 1);
        C.due("row(47)", x.row(47), 9999);
        C.due("row(0)", x.row(0), -9999);
        C.due("others 0", x.row(20), 0);
        C.due("tell again", x.tell(47, 3), 1);
        C.due("row(47) again", x.row(47), 3);
        C.due("row(0) stays", x.row(0), -9999);
    }

    private static void tear() {
        IceRoad x = new IceRoad();
        C.due("tear at first", x.tear(), 0);
        x.tell(0, 30);
        x.tell(3, 33);
        x.tell(47, 34);
        C.due("tear", x.tear(), 1);
        C.due("tear again", x.tear(), 0);
        C.due("torn", x.row(3), 0);
        C.due("missing", x.status(IceRoad.MISSING), 1);
        x.tell(4, 44);
        C.due("others are 0 anew", x.row(3), 0);
        C.due("the first, too", x.row(0), 0);
        C.due("the last, too", x.row(47), 0);
        C.due("it is there", x.status(IceRoad.MISSING), 1);
    }

    private static void row() {
        IceRoad x = new IceRoad();
        C.due("row(99) of none", x.row(99), 0);
        C.due("missing ahead of beyond", x.status(IceRoad.MISSING), 1);
        C.due("not beyond", x.status(IceRoad.BEYOND), 0);
        x.tell(0, 7);
        C.due("row(0)", x.row(0), 7);
        C.due("row(-1)", x.row(-1), 0);
        C.due("row(48)", x.row(48), 0);
        C.due("beyond", x.status(IceRoad.BEYOND), 2);
    }

    private static void copy() {
        IceRoad x = new IceRoad();
        C.due("missing ahead of below", x.copy(0, 0, -1), IceRoad.MISSING);
        for (int i = 0; i < 48; i++) {
            x.tell(i, i + 100);
        }
        C.due("below ahead of copy", x.copy(-1, 0, -1), IceRoad.BELOW);
        C.due("i below 0", x.copy(-1, 0, 1), IceRoad.COPY);
        C.due("j below 0", x.copy(0, -1, 0), IceRoad.COPY);
        C.due("i + n", x.copy(47, 0, 2), IceRoad.COPY);
        C.due("j + n", x.copy(0, 47, 2), IceRoad.COPY);
        C.due("n alone", x.copy(0, 0, 49), IceRoad.COPY);
        C.due("i + n wraps around", x.copy(1, 0, Integer.MAX_VALUE), IceRoad.COPY);
        C.due("j + n wraps around", x.copy(0, Integer.MAX_VALUE, Integer.MAX_VALUE), IceRoad.COPY);
        C.due("i far", x.copy(Integer.MAX_VALUE, 0, 1), IceRoad.COPY);
        C.due("none at the end", x.copy(48, 48, 0), 0);
        C.due("none behind the end", x.copy(49, 0, 0), IceRoad.COPY);
        C.due("all onto itself", x.copy(0, 0, 48), 48);
        C.due("onwards, over itself", x.copy(0, 1, 10), 10);
        for (int i = 0; i < 12; i++) {
            C.due("onwards " + i, x.row(i), i == 0 ? 100 : i <= 10 ? 99 + i : 100 + i);
        }
        C.due("back, over itself", x.copy(22, 20, 5), 5);
        for (int i = 20; i < 28; i++) {
            C.due("back " + i, x.row(i), i < 25 ? 102 + i : 100 + i);
        }
        C.due("to the end", x.copy(30, 47, 1), 1);
        C.due("at the end", x.row(47), 130);
    }

    private static void status() {
        IceRoad x = new IceRoad();
        x.cold();
        x.look(9, 0);
        x.heat(-1);
        x.run(-5);
        x.flood(0);
        x.tell(0, 0);
        x.copy(-1, 0, 0);
        x.snow(0);
        x.weather(0, 999);
        for (int i = 0; i < 21; i++) {
            x.feed(0, 4);
        }
        C.due("missing", x.status(-2), 1);
        C.due("beyond", x.status(-3), 2);
        C.due("below", x.status(-4), 1);
        C.due("kind", x.status(-5), 1);
        C.due("copy", x.status(-6), 1);
        C.due("no", x.status(-7), 2);
        C.due("full", x.status(-8), 1);
        C.due("another number", x.status(-1), IceRoad.NO);
        C.due("another number", x.status(-9), IceRoad.NO);
        C.due("another number", x.status(0), IceRoad.NO);
        C.due("another number", x.status(Integer.MIN_VALUE), IceRoad.NO);
        C.due("those were refused too", x.status(-7), 6);
        x.rule(0, 5);
        C.due("a fault is none of these", x.status(-8) + x.status(-7), 7);
    }
}
