/** A road over ice, with its weather, loads, rules and gangs; ../shared/DOC.md says what each call answers. */
public final class IceRoad {
    public static final int NONE = -1;
    public static final int MISSING = -2;
    public static final int BEYOND = -3;
    public static final int BELOW = -4;
    public static final int KIND = -5;
    public static final int COPY = -6;
    public static final int NO = -7;
    public static final int FULL = -8;

    private static final int ICE = 0;
    private static final int SWEPT = 1;
    private static final int FLOODED = 2;
    private static final int CRACKED = 3;
    private static final int PORTAGE = 4;

    private static final int WAITS = 0;
    private static final int ON_CELL = 1;
    private static final int DELIVERED = 2;
    private static final int BROKEN_IN = 3;
    private static final int TURNED_BACK = 4;

    private static final int UP = 0;
    private static final int DOWN = 1;

    private static final int KEY_THICK = 0;
    private static final int KEY_GAP = 1;
    private static final int KEY_STOP = 2;

    private static final int FIELD_WEIGHT = 0;
    private static final int FIELD_RANK = 1;
    private static final int FIELD_CELL = 2;
    private static final int FIELD_HEAT = 3;
    private static final int FIELD_SNOW = 4;

    private static final int MAX_CELLS = 10;
    private static final int MAX_LOADS = 24;
    private static final int MAX_RULES = 10;
    private static final int MAX_TESTS = 3;
    private static final int MAX_TAPE = 80;
    private static final int MAX_DIGITS = 4;
    private static final int ROW_LENGTH = 48;
    private static final int MAX_THICKNESS = 3000;
    private static final int MAX_DEPTH = 60;
    private static final int SHORE_BELOW = 10;
    private static final int MAX_LENGTH = 4;
    private static final int MAX_SNOW = 200;
    private static final int MAX_SNOWFALL = 100;
    private static final int MAX_WEIGHT = 99;
    private static final int MAX_RANK = 9;
    private static final int MIN_HEAT = -600;
    private static final int MAX_HEAT = 300;
    private static final int GAP_MARK = -9999;
    private static final int MAX_TOLD = 9999;
    private static final int HEAT_WITHOUT_WEATHER = -100;
    private static final int HEALS_BELOW = -100;
    private static final int HOURS_TO_HEAL = 24;
    private static final int MAX_RUN = 200;
    private static final int MAX_THAW = 500;
    private static final int LAST_HOUR = 100000;

    private final Cell[] cells = new Cell[MAX_CELLS];
    private final Load[] loads = new Load[MAX_LOADS];
    /** The loads once more, in the order in which they move: greatest rank first, then by numbers. */
    private final Load[] moving = new Load[MAX_LOADS];
    private final Rule[] rules = new Rule[MAX_RULES];
    private final Weather hours = new Weather();
    private final RuleReader reader = new RuleReader();
    private final Tape tape = reader.tape;
    private final int[] numbers = new int[ROW_LENGTH];
    private final int[] refusals = new int[MISSING - FULL + 1];
    /** What the fields of tests stand for, while rules are asked; kept so that asking makes no objects. */
    private final int[] facts = new int[FIELD_SNOW + 1];
    private final Cell trial = new Cell();
    private boolean rowThere = false;
    private int cellCount = 0;
    private int loadCount = 0;
    private int ruleCount = 0;
    private int openHour = 0;

    public IceRoad() {
        for (int i = 0; i < MAX_CELLS; i++) {
            cells[i] = new Cell();
        }
        for (int i = 0; i < MAX_LOADS; i++) {
            loads[i] = new Load();
            moving[i] = loads[i];
        }
        for (int i = 0; i < MAX_RULES; i++) {
            rules[i] = new Rule();
        }
        cells[0].lay(20, 1, ICE);
        cells[1].lay(20, 1, ICE);
        cellCount = 2;
    }

    // ---- the road

    public int cell(int depth, int length, boolean portage) {
        if (!isWithin(depth, 1, MAX_DEPTH) || !isWithin(length, 1, MAX_LENGTH) || loadCount > 0) {
            return refuse(NO);
        }
        if (cellCount >= MAX_CELLS) {
            return refuse(FULL);
        }
        cells[cellCount].lay(depth, length, portage ? PORTAGE : ICE);
        cellCount++;
        return cellCount - 1;
    }

    public int look(int cell, int what) {
        if (!isCell(cell)) {
            return refuse(BEYOND);
        }
        Cell seen = cells[cell];
        switch (what) {
            case 0: return seen.kind;
            case 1: return seen.thickness;
            case 2: return seen.snow;
            case 3: return seen.depth;
            case 4: return seen.length;
            case 5: return seen.wear;
            case 6: return seen.kind == CRACKED ? seen.healing : NONE;
            case 7: return leastOf(cell);
            case 8: return mostOf(cell);
            case 9: return loadsOn(cell);
            default: return refuse(NO);
        }
    }

    public int thick(int cell, int v) {
        if (!isCell(cell)) {
            return refuse(BEYOND);
        }
        Cell changed = cells[cell];
        if (changed.kind == PORTAGE) {
            return refuse(KIND);
        }
        if (!isWithin(v, 0, MAX_THICKNESS)) {
            return refuse(NO);
        }
        int before = changed.thickness;
        changed.thickness = v;
        return before;
    }

    public int read(int cell) {
        if (!isCell(cell)) {
            return refuse(BEYOND);
        }
        Cell walked = cells[cell];
        if (walked.kind == PORTAGE) {
            return refuse(KIND);
        }
        walked.known = walked.thickness;
        return walked.thickness;
    }

    public int bears(int cell, int weight) {
        if (!isCell(cell)) {
            return refuse(BEYOND);
        }
        if (!isWithin(weight, 1, MAX_WEIGHT)) {
            return refuse(NO);
        }
        return cells[cell].holdsUp(weight) ? 1 : 0;
    }

    public int weather(int hour, int v) {
        if (!isWithin(hour, 0, ROW_LENGTH - 1)) {
            refuse(BEYOND);
            return 0;
        }
        if (v != GAP_MARK && !isWithin(v, MIN_HEAT, MAX_HEAT)) {
            refuse(NO);
            return 0;
        }
        int before = hours.heats[hour];
        hours.heats[hour] = v;
        return before;
    }

    public int cold() {
        if (!rowThere) {
            return refuse(MISSING);
        }
        int told = 0;
        for (int i = 0; i < ROW_LENGTH; i++) {
            boolean isHeat = isWithin(numbers[i], MIN_HEAT, MAX_HEAT);
            hours.heats[i] = isHeat ? numbers[i] : GAP_MARK;
            told += isHeat ? 1 : 0;
        }
        return told;
    }

    public int heat(int hour) {
        if (hour < 0) {
            refuse(BEYOND);
            return 0;
        }
        return hours.heatOf(hour);
    }

    public int sweep(int cell) {
        if (!isCell(cell)) {
            return refuse(BEYOND);
        }
        Cell swept = cells[cell];
        if (swept.kind != ICE && swept.kind != SWEPT) {
            return refuse(KIND);
        }
        swept.become(SWEPT);
        swept.snow = 0;
        return 1;
    }

    public int flood(int cell) {
        if (!isCell(cell)) {
            return refuse(BEYOND);
        }
        Cell flooded = cells[cell];
        if (flooded.kind != SWEPT && flooded.kind != FLOODED) {
            return refuse(KIND);
        }
        flooded.become(FLOODED);
        return 1;
    }

    public int bypass(int cell) {
        if (!isCell(cell)) {
            return refuse(BEYOND);
        }
        Cell passed = cells[cell];
        if (passed.kind != CRACKED) {
            return refuse(KIND);
        }
        if (loadsOn(cell) > 0) {
            return refuse(NO);
        }
        passed.become(SWEPT);
        passed.snow = 0;
        passed.wear = 0;
        passed.thickness = passed.thickness / 2;
        return passed.thickness;
    }

    public int snow(int v) {
        if (!isWithin(v, 1, MAX_SNOWFALL)) {
            return refuse(NO);
        }
        int changed = 0;
        for (int i = 0; i < cellCount; i++) {
            changed += cells[i].takeSnow(v) ? 1 : 0;
        }
        return changed;
    }

    // ---- loads

    public int load(int weight, int rank, int way) {
        boolean told = isWithin(weight, 1, MAX_WEIGHT) && isWithin(rank, 0, MAX_RANK) && isWithin(way, UP, DOWN);
        if (!told) {
            return refuse(NO);
        }
        if (loadCount >= MAX_LOADS) {
            return refuse(FULL);
        }
        Load come = loads[loadCount];
        come.weight = weight;
        come.rank = rank;
        come.way = way;
        lineUp(come);
        loadCount++;
        return loadCount - 1;
    }

    public int of(int load, int what) {
        if (!isLoad(load)) {
            return refuse(BEYOND);
        }
        Load asked = loads[load];
        switch (what) {
            case 0: return asked.weight;
            case 1: return asked.rank;
            case 2: return asked.way;
            case 3: return asked.state;
            case 4: return asked.place;
            case 5: return asked.hoursThere;
            case 6: return asked.endHour;
            default: return refuse(NO);
        }
    }

    public int may(int load, int cell) {
        if (!isLoad(load) || !isCell(cell)) {
            return refuse(BEYOND);
        }
        return reasonAgainst(loads[load], cell) == 0 ? 1 : 0;
    }

    public int why(int load, int cell) {
        if (!isLoad(load) || !isCell(cell)) {
            return refuse(BEYOND);
        }
        return reasonAgainst(loads[load], cell);
    }

    public int turn(int load) {
        if (!isLoad(load)) {
            return refuse(BEYOND);
        }
        if (loads[load].state != WAITS) {
            return refuse(NO);
        }
        loads[load].state = TURNED_BACK;
        return loadsIn(WAITS);
    }

    public int run(int n) {
        if (n < 0) {
            return refuse(BELOW);
        }
        if (!isWithin(n, 1, MAX_RUN)) {
            return refuse(NO);
        }
        int before = loadsIn(DELIVERED);
        for (int i = 0; i < n; i++) {
            weatherCells();
            agePlaces();
            moveLoadsOnCells();
            moveWaitingLoads();
            openHour++;
        }
        return loadsIn(DELIVERED) - before;
    }

    public int thaw(int weight, int heat) {
        if (!isWithin(weight, 1, MAX_WEIGHT) || !isWithin(heat, MIN_HEAT, MAX_HEAT)) {
            return refuse(NO);
        }
        int least = MAX_THAW;
        for (int i = 0; i < cellCount; i++) {
            least = hoursHeldUp(cells[i], weight, heat, least);
        }
        return least;
    }

    // ---- rules

    public int feed(int bytes, int n) {
        if (n < 0) {
            return refuse(BELOW);
        }
        if (n > 4) {
            return refuse(NO);
        }
        if (tape.length + n > MAX_TAPE) {
            return refuse(FULL);
        }
        for (int i = n - 1; i >= 0; i--) {
            tape.put((bytes >> (8 * i)) & 255);
        }
        return tape.length;
    }

    public int wipe() {
        int before = tape.length;
        tape.length = 0;
        return before;
    }

    public int rule(int from, int to) {
        if (!isWithin(from, 0, LAST_HOUR) || !isWithin(to, 0, LAST_HOUR) || from >= to) {
            return refuse(NO);
        }
        if (ruleCount >= MAX_RULES) {
            return refuse(FULL);
        }
        // a slot behind the last rule counts for nothing, so a text with a fault may leave it half written
        Rule next = rules[ruleCount];
        if (!reader.takeRule(next)) {
            return -10 - reader.place;
        }
        next.from = from;
        next.to = to;
        tape.length = 0;
        ruleCount++;
        return ruleCount - 1;
    }

    public int said(int load, int cell, int key) {
        if (!isLoad(load) || !isCell(cell)) {
            return refuse(BEYOND);
        }
        if (!isWithin(key, KEY_THICK, KEY_STOP)) {
            return refuse(NO);
        }
        gatherFacts(loads[load], cell);
        return numberFor(key);
    }

    public int count(int what) {
        switch (what) {
            case 0: return openHour;
            case 1: return cellCount;
            case 2: return loadCount;
            case 3: return ruleCount;
            case 4: return tape.length;
            case 5: return loadsIn(WAITS);
            case 6: return loadsIn(ON_CELL);
            case 7: return loadsIn(DELIVERED);
            case 8: return loadsIn(BROKEN_IN);
            case 9: return loadsIn(TURNED_BACK);
            case 10: return tonsDelivered();
            default: return refuse(NO);
        }
    }

    // ---- rows

    public int tell(int i, int v) {
        if (!isWithin(i, 0, ROW_LENGTH - 1)) {
            return refuse(BEYOND);
        }
        if (!isWithin(v, -MAX_TOLD, MAX_TOLD)) {
            return refuse(NO);
        }
        rowThere = true;
        numbers[i] = v;
        return 1;
    }

    public int tear() {
        if (!rowThere) {
            return 0;
        }
        rowThere = false;
        // the next number that is told finds the others 0
        for (int i = 0; i < ROW_LENGTH; i++) {
            numbers[i] = 0;
        }
        return 1;
    }

    public int row(int i) {
        if (!rowThere) {
            refuse(MISSING);
            return 0;
        }
        if (!isWithin(i, 0, ROW_LENGTH - 1)) {
            refuse(BEYOND);
            return 0;
        }
        return numbers[i];
    }

    public int copy(int i, int j, int n) {
        if (!rowThere) {
            return refuse(MISSING);
        }
        if (n < 0) {
            return refuse(BELOW);
        }
        // 48 - n can't wrap around, as i + n could
        if (i < 0 || j < 0 || i > ROW_LENGTH - n || j > ROW_LENGTH - n) {
            return refuse(COPY);
        }
        System.arraycopy(numbers, i, numbers, j, n);
        return n;
    }

    public int status(int by) {
        if (!isWithin(by, FULL, MISSING)) {
            return refuse(NO);
        }
        return refusals[MISSING - by];
    }

    // ---- refusals and bounds

    private int refuse(int by) {
        if (isWithin(by, FULL, MISSING)) {
            refusals[MISSING - by]++;
        }
        return by;
    }

    private static boolean isWithin(int v, int least, int most) {
        return v >= least && v <= most;
    }

    private boolean isCell(int i) {
        return i >= 0 && i < cellCount;
    }

    private boolean isLoad(int i) {
        return i >= 0 && i < loadCount;
    }

    // ---- spans

    private int leastOf(int place) {
        Cell cell = cells[place];
        if (cell.kind == PORTAGE) {
            return MAX_THICKNESS;
        }
        if (cell.known != NONE) {
            return cell.known;
        }
        int before = nearestKnown(place, -1);
        int behind = nearestKnown(place, 1);
        if (before == NONE && behind == NONE) {
            return 0;
        }
        if (before == NONE || behind == NONE) {
            return Math.max(before, behind) / 2;
        }
        return Math.min(before, behind);
    }

    private int mostOf(int place) {
        Cell cell = cells[place];
        if (cell.kind == PORTAGE) {
            return MAX_THICKNESS;
        }
        if (cell.known != NONE) {
            return cell.known;
        }
        int before = nearestKnown(place, -1);
        int behind = nearestKnown(place, 1);
        if (before == NONE && behind == NONE) {
            return MAX_THICKNESS;
        }
        return Math.max(before, behind);
    }

    /** What is known of the nearest known cell on one side (step -1 or 1); NONE is less than all that can be known. */
    private int nearestKnown(int place, int step) {
        int i = place + step;
        for (int gone = 0; gone < MAX_CELLS && isCell(i); gone++) {
            if (cells[i].known != NONE) {
                return cells[i].known;
            }
            i += step;
        }
        return NONE;
    }

    // ---- what rules say

    private void gatherFacts(Load load, int place) {
        facts[FIELD_WEIGHT] = load.weight;
        facts[FIELD_RANK] = load.rank;
        facts[FIELD_CELL] = place;
        facts[FIELD_HEAT] = hours.heatOf(openHour);
        facts[FIELD_SNOW] = cells[place].snow;
    }

    /** What a key says for the facts that were gathered last. */
    private int numberFor(int key) {
        for (int i = ruleCount - 1; i >= 0; i--) {
            if (rules[i].key == key && rules[i].applies(openHour, facts)) {
                return rules[i].number;
            }
        }
        return key == KEY_GAP ? 1 : 0;
    }

    /** 0 if a load is let onto a cell now, else 1 stop, 2 thick, 3 gap. */
    private int reasonAgainst(Load load, int place) {
        gatherFacts(load, place);
        if (numberFor(KEY_STOP) != 0) {
            return 1;
        }
        if (leastOf(place) < numberFor(KEY_THICK)) {
            return 2;
        }
        int came = cells[place].lastCome(load.way);
        if (came != NONE && openHour - came < numberFor(KEY_GAP)) {
            return 3;
        }
        return 0;
    }

    // ---- an hour

    private void weatherCells() {
        int heat = hours.heatOf(openHour);
        for (int i = 0; i < cellCount; i++) {
            cells[i].passHour(heat);
        }
    }

    private void agePlaces() {
        for (int i = 0; i < loadCount; i++) {
            if (loads[i].state == ON_CELL) {
                loads[i].hoursThere++;
            }
        }
    }

    private void moveLoadsOnCells() {
        for (int i = 0; i < loadCount; i++) {
            Load load = moving[i];
            if (load.state == ON_CELL && isCell(load.place) && load.hoursThere >= cells[load.place].length) {
                if (load.place == lastPlace(load.way)) {
                    load.end(DELIVERED, openHour);
                } else {
                    comeIfItCan(load, load.way == UP ? load.place + 1 : load.place - 1);
                }
            }
        }
    }

    private void moveWaitingLoads() {
        for (int i = 0; i < loadCount; i++) {
            Load load = moving[i];
            if (load.state == WAITS) {
                comeIfItCan(load, load.way == UP ? 0 : cellCount - 1);
            }
        }
    }

    private int lastPlace(int way) {
        return way == UP ? cellCount - 1 : 0;
    }

    private void comeIfItCan(Load load, int place) {
        if (!isCell(place) || isBarred(load, place) || reasonAgainst(load, place) != 0) {
            return;
        }
        Cell cell = cells[place];
        cell.noteCome(load.way, openHour);
        if (cell.holdsUp(load.weight)) {
            load.enter(place);
            cell.wearDown(load.weight);
        } else {
            load.end(BROKEN_IN, openHour);
            cell.crack();
        }
    }

    /** Whether another load's being on a cell keeps this one off it. */
    private boolean isBarred(Load load, int place) {
        boolean isShore = cells[place].depth < SHORE_BELOW;
        for (int i = 0; i < loadCount; i++) {
            Load other = loads[i];
            if (other.state == ON_CELL && other.place == place && (isShore || other.way == load.way)) {
                return true;
            }
        }
        return false;
    }

    /** Sets a new load, the one behind all others by number, behind those of its rank or a greater one. */
    private void lineUp(Load come) {
        int at = loadCount;
        while (at > 0 && moving[at - 1].rank < come.rank) {
            moving[at] = moving[at - 1];
            at--;
        }
        moving[at] = come;
    }

    // ---- counts

    private int loadsIn(int state) {
        int found = 0;
        for (int i = 0; i < loadCount; i++) {
            found += loads[i].state == state ? 1 : 0;
        }
        return found;
    }

    private int loadsOn(int place) {
        int found = 0;
        for (int i = 0; i < loadCount; i++) {
            found += loads[i].state == ON_CELL && loads[i].place == place ? 1 : 0;
        }
        return found;
    }

    private int tonsDelivered() {
        int tons = 0;
        for (int i = 0; i < loadCount; i++) {
            tons += loads[i].state == DELIVERED ? loads[i].weight : 0;
        }
        return tons;
    }

    /** For how many hours, most at most, a cell would bear a weight at a heat. */
    private int hoursHeldUp(Cell cell, int weight, int heat, int most) {
        if (!cell.holdsUp(weight)) {
            return 0;
        }
        trial.takeAfter(cell);
        for (int gone = 0; gone < most; gone++) {
            trial.passHour(heat);
            if (!trial.holdsUp(weight)) {
                return gone;
            }
        }
        return most;
    }

    private static final class Cell {
        int kind = ICE;
        int thickness = 0;
        int snow = 0;
        int depth = 1;
        int length = 1;
        int wear = 0;
        int healing = 0;
        int known = NONE;
        int cameUp = NONE;
        int cameDown = NONE;

        void lay(int newDepth, int newLength, int newKind) {
            depth = newDepth;
            length = newLength;
            kind = newKind;
        }

        /** Takes over what the hours and weights act on. */
        void takeAfter(Cell other) {
            kind = other.kind;
            thickness = other.thickness;
            snow = other.snow;
            healing = other.healing;
        }

        void passHour(int heat) {
            if (kind == PORTAGE) {
                return;
            }
            if (heat < 0) {
                thickness = Math.min(MAX_THICKNESS, thickness + growth(heat));
            } else if (heat > 0) {
                thickness = Math.max(0, thickness - (heat / 10 + 1));
            }
            if (kind == CRACKED && heat < HEALS_BELOW) {
                healOneHour();
            }
        }

        private int growth(int heat) {
            boolean isBare = kind == SWEPT || kind == FLOODED;
            int rate = kind == FLOODED ? 20 : kind == CRACKED ? 5 : 10;
            int hindrance = 100 + thickness / 10 + (isBare ? 0 : 3 * snow);
            return hindrance > 0 ? -heat * rate / hindrance : 0;
        }

        private void healOneHour() {
            healing++;
            if (healing >= HOURS_TO_HEAL) {
                become(ICE);
                wear = 0;
            }
        }

        boolean holdsUp(int weight) {
            if (kind == PORTAGE) {
                return true;
            }
            int needed = kind == CRACKED ? 2 * weight : weight;
            return thickness * thickness / 10000 >= needed;
        }

        /** What was read is forgotten only where the kind is another one than before. */
        void become(int newKind) {
            if (kind != newKind) {
                known = NONE;
            }
            kind = newKind;
        }

        void crack() {
            become(CRACKED);
            wear = 0;
            healing = 0;
        }

        void wearDown(int weight) {
            wear += weight;
            if (kind != PORTAGE && wear >= thickness) {
                crack();
            }
        }

        /** Whether the kind is another one by this snow. */
        boolean takeSnow(int fallen) {
            if (kind == PORTAGE) {
                return false;
            }
            snow = Math.min(MAX_SNOW, snow + fallen);
            if (snow > 0 && (kind == SWEPT || kind == FLOODED)) {
                become(ICE);
                return true;
            }
            return false;
        }

        int lastCome(int way) {
            return way == UP ? cameUp : cameDown;
        }

        void noteCome(int way, int hour) {
            if (way == UP) {
                cameUp = hour;
            } else {
                cameDown = hour;
            }
        }
    }

    private static final class Load {
        int weight = 0;
        int rank = 0;
        int way = UP;
        int state = WAITS;
        int place = NONE;
        int hoursThere = NONE;
        int endHour = NONE;

        void enter(int newPlace) {
            state = ON_CELL;
            place = newPlace;
            hoursThere = 0;
        }

        void end(int newState, int hour) {
            state = newState;
            place = NONE;
            hoursThere = NONE;
            endHour = hour;
        }
    }

    private static final class Weather {
        final int[] heats = new int[ROW_LENGTH];

        Weather() {
            for (int i = 0; i < ROW_LENGTH; i++) {
                heats[i] = GAP_MARK;
            }
        }

        /** The heat of an hour that is 0 or more. */
        int heatOf(int hour) {
            int place = Math.floorMod(hour, ROW_LENGTH);
            if (heats[place] != GAP_MARK) {
                return heats[place];
            }
            int before = nearest(place, ROW_LENGTH - 1);
            int behind = nearest(place, 1);
            // the mark of a gap is less than all heats, and stands on both sides or on none
            int greater = Math.max(before, behind);
            return greater == GAP_MARK ? HEAT_WITHOUT_WEATHER : greater;
        }

        /** The first heat that is found by going on by step, round the row. */
        private int nearest(int place, int step) {
            int at = place;
            for (int gone = 1; gone < ROW_LENGTH; gone++) {
                at = (at + step) % ROW_LENGTH;
                if (heats[at] != GAP_MARK) {
                    return heats[at];
                }
            }
            return GAP_MARK;
        }
    }

    private static final class Tape {
        final int[] bytes = new int[MAX_TAPE];
        int length = 0;

        void put(int newByte) {
            if (length < MAX_TAPE) {
                bytes[length] = newByte;
                length++;
            }
        }

        /** The byte at a place, or NONE behind the end. */
        int at(int place) {
            return place >= 0 && place < length ? bytes[place] : NONE;
        }
    }

    private static final class Rule {
        int key = KEY_THICK;
        int number = 0;
        int from = 0;
        int to = 0;
        boolean oneIsEnough = false;
        int testCount = 0;
        final int[] fields = new int[MAX_TESTS];
        final int[] signs = new int[MAX_TESTS];
        final int[] limits = new int[MAX_TESTS];

        boolean applies(int hour, int[] facts) {
            if (hour < from || hour >= to) {
                return false;
            }
            int so = 0;
            for (int i = 0; i < testCount; i++) {
                boolean isField = fields[i] >= 0 && fields[i] < facts.length;
                int fact = isField ? facts[fields[i]] : 0;
                boolean isSo = signs[i] == '=' ? fact == limits[i]
                        : signs[i] == '<' ? fact < limits[i] : fact > limits[i];
                so += isSo ? 1 : 0;
            }
            return oneIsEnough ? so > 0 : so == testCount;
        }
    }

    /**
     * Reads a rule byte by byte. All words that may stand at one place begin with different letters, so the place
     * at which reading stops is always the first byte with which no rule begins so.
     */
    private static final class RuleReader {
        /** Made here, so that no constructor hands out a part of the object that it makes. */
        final Tape tape = new Tape();
        /** Where reading stands; behind a text that is no rule, its fault. */
        int place = 0;

        boolean takeRule(Rule rule) {
            place = 0;
            rule.oneIsEnough = false;
            rule.testCount = 0;
            rule.key = takeKey();
            if (rule.key == NONE || !takeSign(' ')) {
                return false;
            }
            rule.number = takeNumber();
            if (rule.number == NONE) {
                return false;
            }
            return isAtEnd() || takeTests(rule);
        }

        private boolean takeTests(Rule rule) {
            if (!takeWord(" if ") || !takeTest(rule)) {
                return false;
            }
            for (int tests = 1; tests < MAX_TESTS && !isAtEnd(); tests++) {
                if (!takeSign(' ') || !takeJoint(rule) || !takeSign(' ') || !takeTest(rule)) {
                    return false;
                }
            }
            return isAtEnd();
        }

        /** The first joint may be either word; those behind it are like it. */
        private boolean takeJoint(Rule rule) {
            if (rule.testCount == 1) {
                rule.oneIsEnough = tape.at(place) == 'o';
            }
            return takeWord(rule.oneIsEnough ? "or" : "and");
        }

        private boolean takeTest(Rule rule) {
            int field = takeField();
            if (field == NONE) {
                return false;
            }
            int sign = tape.at(place);
            if (sign != '=' && sign != '<' && sign != '>') {
                return false;
            }
            place++;
            boolean isBelow = takeSign('-');
            int number = takeNumber();
            if (number == NONE || rule.testCount >= MAX_TESTS) {
                return false;
            }
            rule.fields[rule.testCount] = field;
            rule.signs[rule.testCount] = sign;
            rule.limits[rule.testCount] = isBelow ? -number : number;
            rule.testCount++;
            return true;
        }

        private int takeKey() {
            switch (tape.at(place)) {
                case 't': return takeWord("thick") ? KEY_THICK : NONE;
                case 'g': return takeWord("gap") ? KEY_GAP : NONE;
                case 's': return takeWord("stop") ? KEY_STOP : NONE;
                default: return NONE;
            }
        }

        private int takeField() {
            switch (tape.at(place)) {
                case 'w': return takeWord("weight") ? FIELD_WEIGHT : NONE;
                case 'r': return takeWord("rank") ? FIELD_RANK : NONE;
                case 'c': return takeWord("cell") ? FIELD_CELL : NONE;
                case 'h': return takeWord("heat") ? FIELD_HEAT : NONE;
                case 's': return takeWord("snow") ? FIELD_SNOW : NONE;
                default: return NONE;
            }
        }

        /** One to four digits; NONE if there is none. */
        private int takeNumber() {
            int number = NONE;
            for (int taken = 0; taken < MAX_DIGITS; taken++) {
                int digit = tape.at(place) - '0';
                if (digit < 0 || digit > 9) {
                    return number;
                }
                number = number == NONE ? digit : number * 10 + digit;
                place++;
            }
            return number;
        }

        private boolean takeWord(String word) {
            for (int i = 0; i < word.length(); i++) {
                if (tape.at(place) != word.charAt(i)) {
                    return false;
                }
                place++;
            }
            return true;
        }

        private boolean takeSign(char sign) {
            if (tape.at(place) != sign) {
                return false;
            }
            place++;
            return true;
        }

        private boolean isAtEnd() {
            return place >= tape.length;
        }
    }
}
