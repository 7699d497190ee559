import java.util.ArrayList;
import java.util.Comparator;
import java.util.List;
import java.util.TreeMap;

/** The document written down once more, plainly and with the library, to compare answers with. */
final class Model {
    private static final class Cell {
        String kind = "ICE";
        int thickness, snow, depth, length, wear, healing;
        Integer known;
        final TreeMap<Integer, Integer> came = new TreeMap<>();

        Cell(int depth, int length, boolean portage) {
            this.depth = depth;
            this.length = length;
            this.kind = portage ? "PORTAGE" : "ICE";
        }

        boolean is(String... kinds) {
            return List.of(kinds).contains(kind);
        }

        void kind(String k) {
            if (!kind.equals(k)) {
                known = null;
            }
            kind = k;
        }

        void hour(int h) {
            if (is("PORTAGE")) {
                return;
            }
            if (h < 0) {
                int rate = is("FLOODED") ? 20 : is("CRACKED") ? 5 : 10;
                int s = is("SWEPT", "FLOODED") ? 0 : snow;
                thickness += (-h * rate) / (100 + thickness / 10 + 3 * s);
            }
            if (h > 0) {
                thickness -= h / 10 + 1;
            }
            thickness = Math.min(3000, Math.max(0, thickness));
            if (is("CRACKED") && h < -100 && ++healing == 24) {
                kind("ICE");
                wear = 0;
            }
        }

        boolean bears(int w) {
            return is("PORTAGE") || thickness * thickness / 10000 >= (is("CRACKED") ? 2 * w : w);
        }

        void crack() {
            kind("CRACKED");
            wear = 0;
            healing = 0;
        }

        Cell twin() {
            Cell c = new Cell(depth, length, false);
            c.kind = kind;
            c.thickness = thickness;
            c.snow = snow;
            c.healing = healing;
            return c;
        }
    }

    private static final class Load {
        int number, weight, rank, way, state, cell = -1, hours = -1, end = -1;
    }

    private record Rule(String text, int from, int to) { }

    private final List<Cell> cells = new ArrayList<>();
    private final List<Load> loads = new ArrayList<>();
    private final List<Rule> rules = new ArrayList<>();
    private final Integer[] weather = new Integer[48];
    private final TreeMap<Integer, Integer> refused = new TreeMap<>();
    private String tape = "";
    private int[] row;
    private int open;

    Model() {
        cells.add(new Cell(20, 1, false));
        cells.add(new Cell(20, 1, false));
    }

    private int no(int by) {
        refused.merge(by, 1, Integer::sum);
        return by;
    }

    private int zero(int by) {
        no(by);
        return 0;
    }

    private static boolean in(int v, int a, int b) {
        return a <= v && v <= b;
    }

    private boolean noCell(int c) {
        return !in(c, 0, cells.size() - 1);
    }

    private boolean noLoad(int l) {
        return !in(l, 0, loads.size() - 1);
    }

    int cell(int depth, int length, boolean portage) {
        if (!in(depth, 1, 60) || !in(length, 1, 4) || !loads.isEmpty()) return no(-7);
        if (cells.size() == 10) return no(-8);
        cells.add(new Cell(depth, length, portage));
        return cells.size() - 1;
    }

    private int[] span(int c) {
        Cell cell = cells.get(c);
        if (cell.is("PORTAGE")) return new int[] {3000, 3000};
        if (cell.known != null) return new int[] {cell.known, cell.known};
        Integer a = null;
        Integer b = null;
        for (int i = 0; i < c; i++) {
            if (cells.get(i).known != null) a = cells.get(i).known;
        }
        for (int i = cells.size() - 1; i > c; i--) {
            if (cells.get(i).known != null) b = cells.get(i).known;
        }
        if (a == null && b == null) return new int[] {0, 3000};
        if (a == null) return new int[] {b / 2, b};
        if (b == null) return new int[] {a / 2, a};
        return new int[] {Math.min(a, b), Math.max(a, b)};
    }

    private int on(int c, int way) {
        return (int) loads.stream().filter(l -> l.state == 1 && l.cell == c && (way < 0 || l.way == way)).count();
    }

    int look(int c, int what) {
        if (noCell(c)) return no(-3);
        Cell cell = cells.get(c);
        int kind = List.of("ICE", "SWEPT", "FLOODED", "CRACKED", "PORTAGE").indexOf(cell.kind);
        int[] all = {kind, cell.thickness, cell.snow, cell.depth, cell.length, cell.wear,
            kind == 3 ? cell.healing : -1, span(c)[0], span(c)[1], on(c, -1)};
        return in(what, 0, 9) ? all[what] : no(-7);
    }

    int thick(int c, int v) {
        if (noCell(c)) return no(-3);
        if (cells.get(c).is("PORTAGE")) return no(-5);
        if (!in(v, 0, 3000)) return no(-7);
        int before = cells.get(c).thickness;
        cells.get(c).thickness = v;
        return before;
    }

    int read(int c) {
        if (noCell(c)) return no(-3);
        if (cells.get(c).is("PORTAGE")) return no(-5);
        return cells.get(c).known = cells.get(c).thickness;
    }

    int bears(int c, int w) {
        if (noCell(c)) return no(-3);
        if (!in(w, 1, 99)) return no(-7);
        return cells.get(c).bears(w) ? 1 : 0;
    }

    int weather(int hour, int v) {
        if (!in(hour, 0, 47)) return zero(-3);
        if (!in(v, -600, 300) && v != -9999) return zero(-7);
        int before = weather[hour] == null ? -9999 : weather[hour];
        weather[hour] = v == -9999 ? null : v;
        return before;
    }

    int cold() {
        if (row == null) return no(-2);
        int n = 0;
        for (int i = 0; i < 48; i++) {
            weather[i] = in(row[i], -600, 300) ? row[i] : null;
            if (weather[i] != null) n++;
        }
        return n;
    }

    private int heatOf(int hour) {
        int p = hour % 48;
        if (weather[p] != null) return weather[p];
        Integer a = null;
        Integer b = null;
        for (int i = 47; i >= 1; i--) {
            if (weather[(p + 48 - i) % 48] != null) a = weather[(p + 48 - i) % 48];
            if (weather[(p + i) % 48] != null) b = weather[(p + i) % 48];
        }
        return a == null ? -100 : Math.max(a, b);
    }

    int heat(int hour) {
        return hour < 0 ? zero(-3) : heatOf(hour);
    }

    int sweep(int c) {
        if (noCell(c)) return no(-3);
        if (!cells.get(c).is("ICE", "SWEPT")) return no(-5);
        cells.get(c).kind("SWEPT");
        cells.get(c).snow = 0;
        return 1;
    }

    int flood(int c) {
        if (noCell(c)) return no(-3);
        if (!cells.get(c).is("SWEPT", "FLOODED")) return no(-5);
        cells.get(c).kind("FLOODED");
        return 1;
    }

    int bypass(int c) {
        if (noCell(c)) return no(-3);
        Cell cell = cells.get(c);
        if (!cell.is("CRACKED")) return no(-5);
        if (on(c, -1) > 0) return no(-7);
        cell.kind("SWEPT");
        cell.snow = 0;
        cell.wear = 0;
        return cell.thickness /= 2;
    }

    int snow(int v) {
        if (!in(v, 1, 100)) return no(-7);
        int n = 0;
        for (Cell cell : cells) {
            if (cell.is("PORTAGE")) continue;
            cell.snow = Math.min(200, cell.snow + v);
            if (cell.is("SWEPT", "FLOODED")) {
                cell.kind("ICE");
                n++;
            }
        }
        return n;
    }

    int load(int weight, int rank, int way) {
        if (!in(weight, 1, 99) || !in(rank, 0, 9) || !in(way, 0, 1)) return no(-7);
        if (loads.size() == 24) return no(-8);
        Load l = new Load();
        l.number = loads.size();
        l.weight = weight;
        l.rank = rank;
        l.way = way;
        loads.add(l);
        return l.number;
    }

    int of(int load, int what) {
        if (noLoad(load)) return no(-3);
        Load l = loads.get(load);
        int[] all = {l.weight, l.rank, l.way, l.state, l.cell, l.hours, l.end};
        return in(what, 0, 6) ? all[what] : no(-7);
    }

    private boolean testIsSo(String test, Load l, int c) {
        int sign = Math.max(test.indexOf('='), Math.max(test.indexOf('<'), test.indexOf('>')));
        int limit = Integer.parseInt(test.substring(sign + 1));
        int value = switch (test.substring(0, sign)) {
            case "weight" -> l.weight;
            case "rank" -> l.rank;
            case "cell" -> c;
            case "heat" -> heatOf(open);
            default -> cells.get(c).snow;
        };
        return switch (test.charAt(sign)) {
            case '=' -> value == limit;
            case '<' -> value < limit;
            default -> value > limit;
        };
    }

    private boolean holds(Rule rule, Load l, int c) {
        if (open < rule.from || open >= rule.to) return false;
        String[] parts = rule.text.split(" ");
        if (parts.length == 2) return true;
        boolean or = parts.length > 4 && parts[4].equals("or");
        boolean all = true;
        boolean one = false;
        for (int i = 3; i < parts.length; i += 2) {
            boolean so = testIsSo(parts[i], l, c);
            all &= so;
            one |= so;
        }
        return or ? one : all;
    }

    private int says(String key, Load l, int c) {
        int number = key.equals("gap") ? 1 : 0;
        for (Rule rule : rules) {
            String[] parts = rule.text.split(" ");
            if (parts[0].equals(key) && holds(rule, l, c)) number = Integer.parseInt(parts[1]);
        }
        return number;
    }

    private int reason(Load l, int c) {
        if (says("stop", l, c) != 0) return 1;
        if (span(c)[0] < says("thick", l, c)) return 2;
        Integer came = cells.get(c).came.get(l.way);
        return came != null && open - came < says("gap", l, c) ? 3 : 0;
    }

    int may(int load, int c) {
        if (noLoad(load) || noCell(c)) return no(-3);
        return reason(loads.get(load), c) == 0 ? 1 : 0;
    }

    int why(int load, int c) {
        if (noLoad(load) || noCell(c)) return no(-3);
        return reason(loads.get(load), c);
    }

    int turn(int load) {
        if (noLoad(load)) return no(-3);
        if (loads.get(load).state != 0) return no(-7);
        loads.get(load).state = 4;
        return count(5);
    }

    private void tryOnto(Load l, int c) {
        Cell cell = cells.get(c);
        if (reason(l, c) != 0) return;
        if (cell.depth < 10 && on(c, 1 - l.way) > 0) return;
        if (on(c, l.way) > 0) return;
        cell.came.put(l.way, open);
        if (!cell.bears(l.weight)) {
            end(l, 3);
            cell.crack();
            return;
        }
        l.state = 1;
        l.cell = c;
        l.hours = 0;
        cell.wear += l.weight;
        if (!cell.is("PORTAGE") && cell.wear >= cell.thickness) cell.crack();
    }

    private void end(Load l, int state) {
        l.state = state;
        l.cell = -1;
        l.hours = -1;
        l.end = open;
    }

    private void hour() {
        int h = heatOf(open);
        cells.forEach(c -> c.hour(h));
        loads.stream().filter(l -> l.state == 1).forEach(l -> l.hours++);
        List<Load> order = new ArrayList<>(loads);
        order.sort(Comparator.comparingInt((Load l) -> -l.rank).thenComparingInt(l -> l.number));
        List<Load> ready = new ArrayList<>();
        for (Load l : order) {
            if (l.state == 1 && l.hours >= cells.get(l.cell).length) ready.add(l);
        }
        for (Load l : ready) {
            int next = l.cell + 1 - 2 * l.way;
            if (noCell(next)) {
                end(l, 2);
            } else {
                tryOnto(l, next);
            }
        }
        for (Load l : order) {
            if (l.state == 0) tryOnto(l, l.way == 0 ? 0 : cells.size() - 1);
        }
        open++;
    }

    int run(int n) {
        if (n < 0) return no(-4);
        if (!in(n, 1, 200)) return no(-7);
        int before = count(7);
        for (int i = 0; i < n; i++) hour();
        return count(7) - before;
    }

    int thaw(int weight, int heat) {
        if (!in(weight, 1, 99) || !in(heat, -600, 300)) return no(-7);
        List<Cell> twins = new ArrayList<>();
        for (Cell c : cells) twins.add(c.twin());
        if (!twins.stream().allMatch(c -> c.bears(weight))) return 0;
        for (int gone = 0; gone < 500; gone++) {
            twins.forEach(c -> c.hour(heat));
            if (!twins.stream().allMatch(c -> c.bears(weight))) return gone;
        }
        return 500;
    }

    int feed(int bytes, int n) {
        if (n < 0) return no(-4);
        if (n > 4) return no(-7);
        if (tape.length() + n > 80) return no(-8);
        String all = "" + (char) (bytes >>> 24) + (char) (bytes >>> 16 & 255)
                + (char) (bytes >>> 8 & 255) + (char) (bytes & 255);
        tape += all.substring(4 - n);
        return tape.length();
    }

    int wipe() {
        int before = tape.length();
        tape = "";
        return before;
    }

    int rule(int from, int to) {
        if (!in(from, 0, 100000) || !in(to, 0, 100000) || from >= to) return no(-7);
        if (rules.size() == 10) return no(-8);
        int fault = RulesTest.faultByPattern(tape);
        if (fault >= 0) return -10 - fault;
        rules.add(new Rule(tape, from, to));
        tape = "";
        return rules.size() - 1;
    }

    int said(int load, int c, int key) {
        if (noLoad(load) || noCell(c)) return no(-3);
        if (!in(key, 0, 2)) return no(-7);
        return says(List.of("thick", "gap", "stop").get(key), loads.get(load), c);
    }

    int count(int what) {
        if (!in(what, 0, 10)) return no(-7);
        if (in(what, 5, 9)) return (int) loads.stream().filter(l -> l.state == what - 5).count();
        return switch (what) {
            case 0 -> open;
            case 1 -> cells.size();
            case 2 -> loads.size();
            case 3 -> rules.size();
            case 4 -> tape.length();
            default -> loads.stream().filter(l -> l.state == 2).mapToInt(l -> l.weight).sum();
        };
    }

    int tell(int i, int v) {
        if (!in(i, 0, 47)) return no(-3);
        if (!in(v, -9999, 9999)) return no(-7);
        if (row == null) row = new int[48];
        row[i] = v;
        return 1;
    }

    int tear() {
        int there = row == null ? 0 : 1;
        row = null;
        return there;
    }

    int row(int i) {
        if (row == null) return zero(-2);
        if (!in(i, 0, 47)) return zero(-3);
        return row[i];
    }

    int copy(int i, int j, int n) {
        if (row == null) return no(-2);
        if (n < 0) return no(-4);
        if (i < 0 || j < 0 || (long) i + n > 48 || (long) j + n > 48) return no(-6);
        int[] were = row.clone();
        for (int k = 0; k < n; k++) row[j + k] = were[i + k];
        return n;
    }

    int status(int by) {
        if (!in(by, -8, -2)) return no(-7);
        return refused.getOrDefault(by, 0);
    }
}
