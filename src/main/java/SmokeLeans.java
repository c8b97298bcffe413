/**
 * A house of rooms with gaps, the air that goes through them on a cold and windy night, and what a
 * smouldering stick shows of it. The words in capitals are those of the document.
 */
public final class SmokeLeans {
    private static final int BEYOND = 0;
    private static final int FULL = 1;
    private static final int KIND = 2;
    private static final int NONE = 3;
    private static final int MISSING = 5;
    private static final int SIZE = 6;
    private static final int FINDINGS = 7;
    private static final int FIRST_FINDING = -1000000001;

    private static final int MAX_ROOMS = 6;
    private static final int MAX_GAPS = 20;
    private static final int MAX_WIDTH = 99;
    private static final int MAX_HEIGHT = 9;
    private static final int MAX_COST = 99;
    private static final int MAX_LEAN = 9;
    private static final int MAX_ROUNDS = 60;
    private static final int MAX_BYTES = 120;
    private static final int MAX_NUMBER = 999;
    private static final int MAX_STOPS = 10;
    private static final int MAX_COIN = 999;
    private static final int MAX_LEAST = 99999;
    private static final int MAX_SHEETS = 4;
    private static final int MAX_ON_SHEET = 40;
    private static final int SIDES = 4;
    private static final int OUT = -1;

    private static final int GAP = 0;
    private static final int HIDDEN = 1;
    private static final int NEEDED = 2;
    private static final int KNOWN = 3;
    private static final int TURNING = 4;
    private static final int CHIMNEY = 5;
    private static final int KINDS = 6;
    /** The KIND that each KIND is under, -1 for none. */
    private static final int[] UNDER = {-1, GAP, GAP, GAP, GAP, NEEDED};

    private static final int COLD = 0;
    private static final int WIND = 1;
    private static final int FROM = 2;
    private static final int FAN = 3;
    private static final int THUMB = 4;
    private static final int SLIPS = 5;
    private static final int NIGHT_PARTS = 6;
    private static final int[] NIGHT_LEAST = {0, 0, 0, -99, 0, 0};
    private static final int[] NIGHT_MOST = {40, 99, 3, 99, 99, 100};

    private final Plan plan = new Plan();
    private final Plan keptPlan = new Plan();
    private boolean isKept = false;
    private final Plan draft = new Plan();
    private final Air airNow = new Air();
    private final Trials trials = new Trials();
    private final Teller teller = new Teller();
    private final Sheet[] sheets = new Sheet[MAX_SHEETS];
    private final int[] findingCounts = new int[FINDINGS];

    public SmokeLeans() {
        for (int s = 0; s < MAX_SHEETS; s++) {
            sheets[s] = new Sheet();
        }
    }

    // ---- the house, the night

    public int room() {
        if (plan.roomCount >= MAX_ROOMS) {
            return find(FULL);
        }
        plan.addRoom();
        return plan.roomCount - 1;
    }

    public int gap(int kind, int room, int to, int of) {
        if (!isKind(kind) || !plan.hasRoom(room) || !(to == OUT || plan.hasRoom(to)) || to == room
                || !isMeasure(of)) {
            return find(BEYOND);
        }
        if (plan.gapCount >= MAX_GAPS) {
            return find(FULL);
        }
        int number = plan.addGap(kind, room, to);
        plan.measure(number, of / 10000, of / 1000 % 10, of / 100 % 10, of % 100);
        return number;
    }

    public int of(int gap, int what) {
        if (!plan.hasGap(gap)) {
            return find(BEYOND);
        }
        switch (what) {
            case 0: return plan.kinds[gap];
            case 1: return plan.rooms[gap];
            case 2: return plan.others[gap];
            case 3: return plan.widths[gap];
            case 4: return plan.heights[gap];
            case 5: return plan.sides[gap];
            case 6: return plan.costs[gap];
            case 7: return plan.isShut[gap] ? 1 : 0;
            case 8: return plan.breadthOf(gap);
            case 9: return plan.pushOf(gap);
            default: return find(BEYOND);
        }
    }

    public int width(int gap, int v) {
        if (!plan.hasGap(gap) || v < 0 || v > MAX_WIDTH) {
            return find(BEYOND);
        }
        int was = plan.widths[gap];
        plan.widths[gap] = v;
        return was;
    }

    public int shut(int gap, boolean is) {
        if (!plan.hasGap(gap)) {
            return find(BEYOND);
        }
        boolean was = plan.isShut[gap];
        plan.isShut[gap] = is;
        return was == is ? 0 : 1;
    }

    public int as(int gap, int kind) {
        if (!plan.hasGap(gap) || !isKind(kind)) {
            return find(BEYOND);
        }
        if (!isUnder(plan.kinds[gap], kind)) {
            return find(KIND);
        }
        return plan.breadthOf(gap);
    }

    public int night(int what, int v) {
        if (what < 0 || what >= NIGHT_PARTS || v < NIGHT_LEAST[what] || v > NIGHT_MOST[what]) {
            return find(BEYOND);
        }
        int was = plan.night[what];
        plan.night[what] = v;
        return was;
    }

    // ---- the text

    public int feed(int bytes, int n) {
        if (n < 1 || n > 4) {
            return find(BEYOND);
        }
        if (teller.tape.length > MAX_BYTES - n) {
            return find(FULL);
        }
        for (int i = n - 1; i >= 0; i--) {
            teller.tape.put((bytes >>> (8 * i)) & 255);
        }
        return teller.tape.length;
    }

    public int wipe() {
        int had = teller.tape.length;
        teller.tape.length = 0;
        return had;
    }

    public int house() {
        draft.takeFrom(plan);
        int items = teller.tell(draft);
        teller.tape.length = 0;
        if (items < 0) {
            return -1 - teller.start;
        }
        plan.takeFrom(draft);
        return items;
    }

    // ---- air

    public int pressure(int room) {
        if (!plan.hasRoom(room)) {
            return find(BEYOND);
        }
        airNow.settle(plan);
        return airNow.pressures[room];
    }

    public int flow(int gap) {
        if (!plan.hasGap(gap)) {
            return find(BEYOND);
        }
        airNow.settle(plan);
        return airNow.flows[gap];
    }

    public int lean(int gap) {
        if (!plan.hasGap(gap)) {
            return find(BEYOND);
        }
        airNow.settle(plan);
        return leanOf(airNow.flows[gap]);
    }

    public int rounds() {
        airNow.settle(plan);
        return airNow.roundCount;
    }

    public int rest(int room) {
        if (!plan.hasRoom(room)) {
            return find(BEYOND);
        }
        airNow.settle(plan);
        int sum = 0;
        for (int g = 0; g < plan.gapCount; g++) {
            if (plan.rooms[g] == room) {
                sum += airNow.flows[g];
            } else if (plan.others[g] == room) {
                sum -= airNow.flows[g];
            }
        }
        return sum;
    }

    public int air(int what) {
        if (what < 0 || what > 3) {
            return find(BEYOND);
        }
        airNow.settle(plan);
        switch (what) {
            case 0: return airNow.fresh;
            case 1: return airNow.lost;
            case 2: return airNow.smokes ? 1 : 0;
            default: return airNow.restless ? 1 : 0;
        }
    }

    // ---- the stick

    public int seed(int v) {
        int was = plan.z;
        plan.z = v;
        return was;
    }

    public int stick(int gap) {
        if (!plan.hasGap(gap)) {
            return find(BEYOND);
        }
        airNow.settle(plan);
        return seenAt(gap);
    }

    public int sticks(int s) {
        if (!isSheet(s)) {
            return find(BEYOND);
        }
        Sheet sheet = sheets[s];
        if (sheet.bits == 0) {
            return find(MISSING);
        }
        airNow.settle(plan);
        int n = Math.min(plan.gapCount, sheet.size);
        for (int g = 0; g < n; g++) {
            sheet.put(g, seenAt(g));
        }
        return n;
    }

    public int widths(int gap, int lean, int what) {
        if (!plan.hasGap(gap) || lean < -MAX_LEAN || lean > MAX_LEAN || what < 0 || what > 2) {
            return find(BEYOND);
        }
        trials.findWidths(plan, gap, lean);
        if (what == 0) {
            return trials.widthCount;
        }
        if (trials.widthCount == 0) {
            return find(NONE);
        }
        return what == 1 ? trials.leastWidth : trials.greatestWidth;
    }

    public int most() {
        if (plan.gapCount == 0) {
            return find(NONE);
        }
        airNow.settle(plan);
        int best = 0;
        for (int g = 1; g < plan.gapCount; g++) {
            if (Math.abs(airNow.flows[g]) > Math.abs(airNow.flows[best])) {
                best = g;
            }
        }
        return best;
    }

    // ---- stopping

    public int stop(int set, int coin, int least, int what) {
        if (!isStopSet(set) || coin < 0 || coin > MAX_COIN || least < 0 || least > MAX_LEAST
                || what < 0 || what > 2) {
            return find(BEYOND);
        }
        if (!trials.findStop(plan, set, coin, least)) {
            return find(NONE);
        }
        switch (what) {
            case 0: return trials.stopSet;
            case 1: return trials.stopLost;
            default: return trials.stopCost;
        }
    }

    public int order(int i) {
        if (i < 0 || i >= MAX_GAPS) {
            return find(BEYOND);
        }
        trials.findOrder(plan);
        return i < trials.steps ? trials.stepGaps[i] : find(NONE);
    }

    public int saved(int i) {
        if (i < 0 || i > MAX_GAPS) {
            return find(BEYOND);
        }
        trials.findOrder(plan);
        return trials.lostBehind[Math.min(i, trials.steps)];
    }

    public int line() {
        int wind = trials.findLine(plan);
        return wind < 0 ? find(NONE) : wind;
    }

    public int alone(int gap, int other) {
        if (!plan.hasGap(gap) || !plan.hasGap(other) || gap == other) {
            return find(BEYOND);
        }
        airNow.settle(plan);
        trials.settleWithout(plan, other);
        return trials.air.flows[gap] - airNow.flows[gap];
    }

    public int turns(int gap) {
        if (!plan.hasGap(gap)) {
            return find(BEYOND);
        }
        airNow.settle(plan);
        trials.settleWithout(plan, gap);
        int set = 0;
        for (int g = 0; g < plan.gapCount; g++) {
            if (leanOf(airNow.flows[g]) * leanOf(trials.air.flows[g]) < 0) {
                set |= 1 << g;
            }
        }
        return set;
    }

    public int worst() {
        return trials.findWorst(plan);
    }

    // ---- sheets

    public int sheet(int s, int bits, int n) {
        if (!isSheet(s) || !(bits == 0 || bits == 8 || bits == 16 || bits == 64)) {
            return find(BEYOND);
        }
        if (n < 0) {
            return find(SIZE);
        }
        if (n > MAX_ON_SHEET) {
            return find(BEYOND);
        }
        sheets[s].lay(bits, bits == 0 ? 0 : n);
        return sheets[s].size;
    }

    public long write(int s, int i, long v) {
        if (!isSheet(s)) {
            return find(BEYOND);
        }
        Sheet sheet = sheets[s];
        if (sheet.bits == 0) {
            return find(MISSING);
        }
        if (i < 0 || i >= sheet.size) {
            return find(BEYOND);
        }
        long was = sheet.numbers[i];
        sheet.put(i, v);
        return was;
    }

    public int copy(int s, int from, int t, int to, int n) {
        if (!isSheet(s) || !isSheet(t)) {
            return find(BEYOND);
        }
        Sheet source = sheets[s];
        Sheet target = sheets[t];
        if (source.bits == 0 || target.bits == 0) {
            return find(MISSING);
        }
        if (source.bits != target.bits) {
            return find(KIND);
        }
        if (!source.hasRow(from, n) || !target.hasRow(to, n)) {
            return find(BEYOND);
        }
        System.arraycopy(source.numbers, from, target.numbers, to, n);
        return n;
    }

    public int lays(int s) {
        if (!isSheet(s)) {
            return find(BEYOND);
        }
        Sheet sheet = sheets[s];
        if (sheet.bits == 0) {
            return find(MISSING);
        }
        int came = 0;
        for (int g = 0; g < sheet.size && g < plan.gapCount; g++) {
            long v = sheet.numbers[g];
            if (v >= 0 && v <= MAX_WIDTH) {
                plan.widths[g] = (int) v;
                came++;
            }
        }
        return came;
    }

    public int read(int s) {
        if (!isSheet(s)) {
            return find(BEYOND);
        }
        Sheet sheet = sheets[s];
        if (sheet.bits == 0) {
            return find(MISSING);
        }
        airNow.settle(plan);
        for (int i = 0; i < sheet.size; i++) {
            if (i >= plan.gapCount || sheet.numbers[i] != leanOf(airNow.flows[i])) {
                return 1 + i;
            }
        }
        return 0;
    }

    // ---- images

    public int image() {
        keptPlan.takeFrom(plan);
        isKept = true;
        return 1;
    }

    public int undo() {
        if (!isKept) {
            return find(NONE);
        }
        plan.takeFrom(keptPlan);
        return plan.gapCount;
    }

    public int tear() {
        int was = isKept ? 1 : 0;
        isKept = false;
        return was;
    }

    public int count(int what) {
        switch (what) {
            case 0: return plan.roomCount;
            case 1: return plan.gapCount;
            case 2: return plan.openCount();
            case 3: return teller.tape.length;
            case 4: return plan.z;
            case 5: return plan.allWidths();
            case 6: return plan.openCosts();
            default: return find(BEYOND);
        }
    }

    public int status(int which) {
        if (which < -1 || which >= FINDINGS) {
            return find(BEYOND);
        }
        if (which >= 0) {
            return findingCounts[which];
        }
        int all = 0;
        for (int i = 0; i < FINDINGS; i++) {
            all += findingCounts[i];
        }
        return all;
    }

    /** Findings are counted here and nowhere else, since z and numbers of sheets may look like one. */
    private int find(int finding) {
        if (finding >= 0 && finding < FINDINGS) {
            findingCounts[finding]++;
        }
        return FIRST_FINDING - finding;
    }

    private boolean isSheet(int s) {
        return s >= 0 && s < MAX_SHEETS;
    }

    private boolean isStopSet(int set) {
        if (set < 0 || Integer.bitCount(set) > MAX_STOPS || set >>> plan.gapCount != 0) {
            return false;
        }
        for (int g = 0; g < plan.gapCount; g++) {
            if (isIn(set, g) && plan.isShut[g]) {
                return false;
            }
        }
        return true;
    }

    /** What is SEEN at a GAP by AIR as it was settled just before; it makes a draw. */
    private int seenAt(int gap) {
        plan.z = plan.z * 1103515245 + 12345;
        int draw = (plan.z >>> 8) % 100;
        if (plan.kinds[gap] == HIDDEN || draw < plan.night[SLIPS]) {
            return 0;
        }
        return leanOf(airNow.flows[gap]);
    }

    private static boolean isKind(int kind) {
        return kind >= 0 && kind < KINDS;
    }

    private static boolean isUnder(int kind, int top) {
        int at = kind;
        for (int depth = 0; depth < KINDS && isKind(at); depth++) {
            if (at == top) {
                return true;
            }
            at = UNDER[at];
        }
        return false;
    }

    private static boolean isMeasure(int of) {
        return of >= 0 && of / 10000 <= MAX_WIDTH && of / 100 % 10 < SIDES;
    }

    private static boolean isIn(int set, int gap) {
        return ((set >>> gap) & 1) == 1;
    }

    private static int leanOf(int flow) {
        int size = Math.abs(flow);
        if (size < 5) {
            return 0;
        }
        int lean = Math.min(size / 20 + 1, MAX_LEAN);
        return flow < 0 ? -lean : lean;
    }

    /** All that an image keeps: ROOMS, GAPS, THE NIGHT and z. */
    private static final class Plan {
        int roomCount = 0;
        int gapCount = 0;
        final int[] kinds = new int[MAX_GAPS];
        final int[] rooms = new int[MAX_GAPS];
        final int[] others = new int[MAX_GAPS];
        final int[] widths = new int[MAX_GAPS];
        final int[] heights = new int[MAX_GAPS];
        final int[] sides = new int[MAX_GAPS];
        final int[] costs = new int[MAX_GAPS];
        final boolean[] isShut = new boolean[MAX_GAPS];
        final int[] night = {10, 0, 0, 0, 5, 0};
        int z = 1;

        void takeFrom(Plan from) {
            roomCount = from.roomCount;
            gapCount = from.gapCount;
            z = from.z;
            System.arraycopy(from.night, 0, night, 0, NIGHT_PARTS);
            System.arraycopy(from.kinds, 0, kinds, 0, MAX_GAPS);
            System.arraycopy(from.rooms, 0, rooms, 0, MAX_GAPS);
            System.arraycopy(from.others, 0, others, 0, MAX_GAPS);
            System.arraycopy(from.widths, 0, widths, 0, MAX_GAPS);
            System.arraycopy(from.heights, 0, heights, 0, MAX_GAPS);
            System.arraycopy(from.sides, 0, sides, 0, MAX_GAPS);
            System.arraycopy(from.costs, 0, costs, 0, MAX_GAPS);
            for (int g = 0; g < MAX_GAPS; g++) {
                isShut[g] = from.isShut[g];
            }
        }

        boolean hasRoom(int room) {
            return room >= 0 && room < roomCount;
        }

        boolean hasGap(int gap) {
            return gap >= 0 && gap < gapCount;
        }

        void addRoom() {
            if (roomCount < MAX_ROOMS) {
                roomCount++;
            }
        }

        /** Its number, or -1 where there is no place; its measures are told by a call of their own. */
        int addGap(int kind, int room, int other) {
            int number = gapCount;
            if (number >= MAX_GAPS) {
                return -1;
            }
            gapCount++;
            kinds[number] = kind;
            rooms[number] = room;
            others[number] = other;
            isShut[number] = false;
            return number;
        }

        void measure(int gap, int width, int height, int side, int cost) {
            if (!hasGap(gap)) {
                return;
            }
            widths[gap] = width;
            heights[gap] = height;
            sides[gap] = side;
            costs[gap] = cost;
        }

        int breadthOf(int gap) {
            if (isShut[gap]) {
                return 0;
            }
            switch (kinds[gap]) {
                case HIDDEN: return widths[gap] / 2;
                case KNOWN: return night[THUMB];
                case TURNING: return isTurned(gap) ? 2 * widths[gap] : widths[gap];
                default: return widths[gap];
            }
        }

        int pushOf(int gap) {
            if (others[gap] != OUT) {
                return 0;
            }
            int push = night[COLD] * (5 - heights[gap]) + windOn(sides[gap]);
            return kinds[gap] == CHIMNEY ? push - 3 * night[COLD] : push;
        }

        boolean isOpenFire(int gap) {
            return others[gap] == OUT && !isShut[gap] && isUnder(kinds[gap], NEEDED);
        }

        boolean isOpenLeak(int gap) {
            return others[gap] == OUT && !isShut[gap] && !isUnder(kinds[gap], NEEDED);
        }

        int openCount() {
            int open = 0;
            for (int g = 0; g < gapCount; g++) {
                open += isShut[g] ? 0 : 1;
            }
            return open;
        }

        int openCosts() {
            int sum = 0;
            for (int g = 0; g < gapCount; g++) {
                sum += isShut[g] ? 0 : costs[g];
            }
            return sum;
        }

        int allWidths() {
            int sum = 0;
            for (int g = 0; g < gapCount; g++) {
                sum += widths[g];
            }
            return sum;
        }

        private boolean isTurned(int gap) {
            return others[gap] == OUT && night[WIND] > 0 && night[FROM] == sides[gap];
        }

        private int windOn(int side) {
            int wind = night[WIND];
            if (night[FROM] == side) {
                return wind;
            }
            return night[FROM] == (side + 2) % SIDES ? -(wind / 2) : -(wind / 4);
        }
    }

    /** AIR of a house: all of it is made anew by settle. */
    private static final class Air {
        final int[] pressures = new int[MAX_ROOMS];
        final int[] flows = new int[MAX_GAPS];
        int roundCount = 0;
        boolean restless = false;
        int fresh = 0;
        int lost = 0;
        boolean smokes = false;
        private final int[] nextPressures = new int[MAX_ROOMS];
        private final int[] breadths = new int[MAX_GAPS];
        private final int[] outsides = new int[MAX_GAPS];
        // What goes into each ROOM's quotient is summed once ahead of all ROUNDS: only PRESSURES change.
        private final int[] steady = new int[MAX_ROOMS];
        private final int[] divisors = new int[MAX_ROOMS];
        private final int[][] links = new int[MAX_ROOMS][MAX_ROOMS];

        void settle(Plan plan) {
            clear();
            gather(plan);
            goRounds(plan.roomCount);
            sumFlows(plan);
        }

        private void clear() {
            for (int r = 0; r < MAX_ROOMS; r++) {
                pressures[r] = 0;
                steady[r] = 0;
                divisors[r] = 0;
                for (int o = 0; o < MAX_ROOMS; o++) {
                    links[r][o] = 0;
                }
            }
        }

        private void gather(Plan plan) {
            for (int g = 0; g < plan.gapCount; g++) {
                int breadth = plan.breadthOf(g);
                int room = plan.rooms[g];
                int other = plan.others[g];
                breadths[g] = breadth;
                outsides[g] = 8 * plan.pushOf(g);
                divisors[room] += breadth;
                if (other == OUT) {
                    steady[room] += breadth * outsides[g];
                } else {
                    divisors[other] += breadth;
                    links[room][other] += breadth;
                    links[other][room] += breadth;
                }
            }
            steady[0] += 80 * plan.night[FAN];
        }

        private void goRounds(int roomCount) {
            roundCount = 0;
            while (roundCount < MAX_ROUNDS && goRound(roomCount)) {
                roundCount++;
            }
            restless = roundCount == MAX_ROUNDS;
        }

        /** Whether a PRESSURE changed. */
        private boolean goRound(int roomCount) {
            boolean changed = false;
            for (int r = 0; r < roomCount; r++) {
                int sum = steady[r];
                for (int o = 0; o < roomCount; o++) {
                    sum += links[r][o] * pressures[o];
                }
                nextPressures[r] = divisors[r] == 0 ? 0 : sum / divisors[r];
                changed = changed || nextPressures[r] != pressures[r];
            }
            System.arraycopy(nextPressures, 0, pressures, 0, roomCount);
            return changed;
        }

        private void sumFlows(Plan plan) {
            fresh = 0;
            smokes = false;
            for (int g = 0; g < plan.gapCount; g++) {
                int other = plan.others[g];
                int ahead = other == OUT ? outsides[g] : pressures[other];
                flows[g] = breadths[g] * (ahead - pressures[plan.rooms[g]]) / 80;
                if (other == OUT && flows[g] > 0) {
                    fresh += flows[g];
                }
                smokes = smokes || flows[g] >= 0 && plan.isOpenFire(g);
            }
            lost = fresh * plan.night[COLD];
        }
    }

    /** What would be if something else were so: tried on a house of its own. */
    private static final class Trials {
        final Air air = new Air();
        int widthCount = 0;
        int leastWidth = 0;
        int greatestWidth = 0;
        int stopSet = -1;
        int stopLost = 0;
        int stopCost = 0;
        int steps = 0;
        final int[] stepGaps = new int[MAX_GAPS];
        final int[] lostBehind = new int[MAX_GAPS + 1];
        private final Plan trial = new Plan();

        void settleWithout(Plan plan, int gap) {
            trial.takeFrom(plan);
            trial.isShut[gap] = true;
            air.settle(trial);
        }

        void findWidths(Plan plan, int gap, int lean) {
            trial.takeFrom(plan);
            widthCount = 0;
            for (int w = 0; w <= MAX_WIDTH; w++) {
                trial.widths[gap] = w;
                air.settle(trial);
                if (leanOf(air.flows[gap]) == lean) {
                    leastWidth = widthCount == 0 ? w : leastWidth;
                    greatestWidth = w;
                    widthCount++;
                }
            }
        }

        /** Whether there is a STOP. Subsets come in rising order, so the least of equal ones is met first. */
        boolean findStop(Plan plan, int set, int coin, int least) {
            trial.takeFrom(plan);
            stopSet = -1;
            int subsets = 1 << Integer.bitCount(set);
            int sub = 0;
            for (int k = 0; k < subsets; k++) {
                tryStop(sub, shutJust(set, sub), coin, least);
                sub = (sub - set) & set;
            }
            return stopSet >= 0;
        }

        /** The COSTS of the GAPS that are SHUT. */
        private int shutJust(int set, int sub) {
            int cost = 0;
            for (int g = 0; g < trial.gapCount; g++) {
                if (isIn(set, g)) {
                    trial.isShut[g] = isIn(sub, g);
                    cost += trial.isShut[g] ? trial.costs[g] : 0;
                }
            }
            return cost;
        }

        private void tryStop(int sub, int cost, int coin, int least) {
            if (cost > coin) {
                return;
            }
            air.settle(trial);
            if (air.fresh >= least && !air.smokes && isBetterStop(sub)) {
                stopSet = sub;
                stopLost = air.lost;
                stopCost = cost;
            }
        }

        private boolean isBetterStop(int sub) {
            if (stopSet < 0 || air.lost != stopLost) {
                return stopSet < 0 || air.lost < stopLost;
            }
            return Integer.bitCount(sub) < Integer.bitCount(stopSet);
        }

        void findOrder(Plan plan) {
            trial.takeFrom(plan);
            air.settle(trial);
            steps = 0;
            lostBehind[0] = air.lost;
            boolean goesOn = true;
            for (int i = 0; i < MAX_GAPS && goesOn; i++) {
                goesOn = takeStep();
            }
        }

        /** Whether there was a GAP that pays; it is SHUT then. */
        private boolean takeStep() {
            int best = -1;
            int bestLost = lostBehind[steps];
            for (int g = 0; g < trial.gapCount; g++) {
                if (!trial.isOpenLeak(g)) {
                    continue;
                }
                trial.isShut[g] = true;
                air.settle(trial);
                trial.isShut[g] = false;
                if (air.lost < bestLost && !air.smokes) {
                    best = g;
                    bestLost = air.lost;
                }
            }
            if (best < 0 || steps >= MAX_GAPS) {
                return false;
            }
            trial.isShut[best] = true;
            stepGaps[steps] = best;
            steps++;
            lostBehind[steps] = bestLost;
            return true;
        }

        /** -1 if there is no WIND with which it SMOKES. */
        int findLine(Plan plan) {
            trial.takeFrom(plan);
            for (int wind = 0; wind <= NIGHT_MOST[WIND]; wind++) {
                trial.night[WIND] = wind;
                air.settle(trial);
                if (air.smokes) {
                    return wind;
                }
            }
            return -1;
        }

        int findWorst(Plan plan) {
            trial.takeFrom(plan);
            int worstSide = 0;
            int worstLost = -1;
            for (int side = 0; side < SIDES; side++) {
                trial.night[FROM] = side;
                air.settle(trial);
                if (air.lost > worstLost) {
                    worstSide = side;
                    worstLost = air.lost;
                }
            }
            return worstSide;
        }
    }

    private static final class Tape {
        final int[] bytes = new int[MAX_BYTES];
        int length = 0;

        void put(int b) {
            if (length < MAX_BYTES) {
                bytes[length] = b;
                length++;
            }
        }

        /** -1 behind the end. */
        int at(int place) {
            return place >= 0 && place < length ? bytes[place] : -1;
        }
    }

    /** Tells THE TAPE to a house, TOKEN by TOKEN; where it stops early, start is the place of the FAULT. */
    private static final class Teller {
        private static final int END = 0;
        private static final int WORD = 1;
        private static final int NUMBER = 2;
        private static final int SIGN = 3;
        private static final int NO_TOKEN = 4;

        final Tape tape = new Tape();
        int start = 0;
        private int end = 0;
        private int token = END;
        private int value = 0;

        /** How many ITEMS, or -1 with a FAULT. */
        int tell(Plan house) {
            end = 0;
            nextToken();
            for (int items = 1; items <= MAX_BYTES; items++) {
                if (!tellItem(house)) {
                    return -1;
                }
                if (token == END) {
                    return items;
                }
                if (token != SIGN) {
                    return -1;
                }
                nextToken();
            }
            return -1;
        }

        private boolean tellItem(Plan house) {
            if (isWord("room")) {
                return tellRoom(house);
            }
            int kind = kindTold();
            if (kind >= 0) {
                return tellGap(house, kind);
            }
            int part = partTold();
            return part >= 0 && tellNight(house, part);
        }

        private boolean tellRoom(Plan house) {
            if (house.roomCount >= MAX_ROOMS) {
                return false;
            }
            house.addRoom();
            nextToken();
            return true;
        }

        private boolean tellNight(Plan house, int part) {
            nextToken();
            int v = takeNumber(NIGHT_MOST[part]);
            if (v < 0) {
                return false;
            }
            house.night[part] = v;
            return true;
        }

        private boolean tellGap(Plan house, int kind) {
            if (house.gapCount >= MAX_GAPS) {
                return false;
            }
            nextToken();
            int room = takeNumber(house.roomCount - 1);
            if (room < 0) {
                return false;
            }
            int other = takeOther(house.roomCount - 1, room);
            if (other < OUT) {
                return false;
            }
            int width = takeNumber(MAX_WIDTH);
            int height = width < 0 ? -1 : takePerhaps("high", MAX_HEIGHT);
            int side = height < 0 ? -1 : takePerhaps("side", SIDES - 1);
            int cost = side < 0 ? -1 : takePerhaps("cost", MAX_COST);
            if (cost < 0) {
                return false;
            }
            house.measure(house.addGap(kind, room, other), width, height, side, cost);
            return true;
        }

        /** Below OUT if it is neither that nor another ROOM. */
        private int takeOther(int most, int room) {
            if (isWord("out")) {
                nextToken();
                return OUT;
            }
            int other = token == NUMBER && value == room ? -1 : takeNumber(most);
            return other < 0 ? OUT - 1 : other;
        }

        /** 0 without the word; -1 if its NUMBER may not be. */
        private int takePerhaps(String word, int most) {
            if (!isWord(word)) {
                return 0;
            }
            nextToken();
            return takeNumber(most);
        }

        /** -1, and the TOKEN stays, if it is no NUMBER or one that may not be. */
        private int takeNumber(int most) {
            if (token != NUMBER || value > most) {
                return -1;
            }
            int v = value;
            nextToken();
            return v;
        }

        private int kindTold() {
            if (isWord("gap")) {
                return GAP;
            }
            if (isWord("hidden")) {
                return HIDDEN;
            }
            if (isWord("needed")) {
                return NEEDED;
            }
            if (isWord("known")) {
                return KNOWN;
            }
            if (isWord("turning")) {
                return TURNING;
            }
            return isWord("chimney") ? CHIMNEY : -1;
        }

        private int partTold() {
            if (isWord("cold")) {
                return COLD;
            }
            if (isWord("wind")) {
                return WIND;
            }
            return isWord("thumb") ? THUMB : -1;
        }

        private boolean isWord(String word) {
            if (token != WORD || end - start != word.length()) {
                return false;
            }
            for (int i = 0; i < word.length(); i++) {
                if (tape.at(start + i) != word.charAt(i)) {
                    return false;
                }
            }
            return true;
        }

        /** Any value above 999 is held as 1000, which may stand nowhere: so many digits never go round. */
        private void nextToken() {
            while (end < tape.length && tape.at(end) == ' ') {
                end++;
            }
            start = end;
            token = sortOf(tape.at(start));
            value = 0;
            boolean goesOn = token != END;
            while (goesOn && end < tape.length) {
                if (token == NUMBER) {
                    value = Math.min(value * 10 + (tape.at(end) - '0'), MAX_NUMBER + 1);
                }
                end++;
                goesOn = (token == WORD || token == NUMBER) && sortOf(tape.at(end)) == token;
            }
        }

        /** Of which sort a TOKEN is that begins with a byte. */
        private static int sortOf(int b) {
            if (b < 0) {
                return END;
            }
            if (b >= 'a' && b <= 'z') {
                return WORD;
            }
            if (b >= '0' && b <= '9') {
                return NUMBER;
            }
            return b == ',' ? SIGN : NO_TOKEN;
        }
    }

    /** A row of numbers; it is MISSING with bits 0. */
    private static final class Sheet {
        final long[] numbers = new long[MAX_ON_SHEET];
        int bits = 0;
        int size = 0;

        void lay(int newBits, int newSize) {
            for (int i = 0; i < MAX_ON_SHEET; i++) {
                numbers[i] = 0;
            }
            bits = newBits;
            size = newSize;
        }

        void put(int i, long v) {
            if (i < 0 || i >= size) {
                return;
            }
            switch (bits) {
                case 8:
                    numbers[i] = (byte) v;
                    break;
                case 16:
                    numbers[i] = (short) v;
                    break;
                default:
                    numbers[i] = v;
                    break;
            }
        }

        /** Put so that from and n together never go round. */
        boolean hasRow(int from, int n) {
            return from >= 0 && n >= 0 && n <= size && from <= size - n;
        }
    }
}
