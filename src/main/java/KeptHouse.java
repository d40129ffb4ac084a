import java.util.Arrays;

/** A tower house in use; what each call promises stands in the document (DOC.md). */
public final class KeptHouse {
    public static final int NONE = -1;
    public static final int CUT = -1001;
    public static final int MANY = -1002;
    public static final int FULL = -1003;
    public static final int WRONG = -1004;

    private static final int STOREYS = 5;
    private static final int CELLS = 48;
    private static final int EDGES = 110;
    private static final int ALL_CELLS = STOREYS * CELLS;
    private static final int ALL_EDGES = STOREYS * EDGES;
    private static final int MOST_SPACES = 40;
    private static final int DESKS = 3;
    private static final int FLATS = 10;
    private static final int NO_FLAT = 15;
    private static final int HOURS = 24;
    private static final int CIRCUITS = 11;
    /** The house's own circuit and meters stand behind those of the flats. */
    private static final int HOUSE = 10;
    private static final int DAY = 240;
    private static final int MONTH = 2400;
    private static final int LAST_TIME = 2000000;

    private static final int OPEN = 0;
    private static final int LIGHT = 1;
    private static final int HEAVY = 2;
    private static final int GLASS = 3;

    private static final int HEAT = 0;
    private static final int POWER = 1;
    private static final int WATER = 2;

    private static final int BOILER = 0;
    private static final int PUMP = 1;
    private static final int ENGINE = 2;
    private static final int PARTS = 3;

    /** Where the names of a program stand among its values; the targets come first. */
    private static final int LAMPS = 10;
    private static final int BOIL = 11;
    private static final int PUMPING = 12;
    private static final int VENTS = 13;
    private static final int RELEASE = 14;
    private static final int SPRINKLERS = 15;
    private static final int TARGETS = 16;
    private static final int WARMTHS = 16;
    private static final int STALES = 26;
    private static final int ALERTS = 36;
    private static final int ANY_ALERT = 46;
    private static final int OUTDOORS = 47;
    private static final int HOUR = 48;
    private static final int MINUTE = 49;
    private static final int TANK = 50;
    private static final int ALL_LOADS = 51;
    private static final int MAINS = 52;
    private static final int NAMES = 53;

    private static final int ROW_BYTES = 28;
    private static final int KEYS = 135;

    private final Keeper keeper;
    private final Plan plan;
    private final Program program;
    private final Supply supply;
    private final Climate climate;
    private final Watch watch;
    private final Access access;
    private final Care care;
    private final Books books;
    private final Store store;
    private final int[] values;

    public KeptHouse(long seed) {
        keeper = new Keeper();
        plan = keeper.plan;
        program = keeper.program;
        supply = keeper.supply;
        climate = keeper.climate;
        watch = keeper.watch;
        access = keeper.access;
        care = keeper.care;
        books = keeper.books;
        store = keeper.store;
        values = program.values;
        supply.seed = seed;
        keeper.beginAnew();
    }

    private void mustBeUp() {
        if (store.down) {
            throw new IllegalStateException("the store is down");
        }
    }

    private static void mustBeIn(int v, int least, int most) {
        if (v < least || v > most) {
            throw new IllegalArgumentException("out of its bounds");
        }
    }

    private static void mustHold(boolean legal) {
        if (!legal) {
            throw new IllegalArgumentException("not allowed here");
        }
    }

    private static void mustAllow(boolean ready) {
        if (!ready) {
            throw new IllegalStateException("not now");
        }
    }

    /** Writes one key as a group of its own. */
    private int keep(int kind, int index, int answer) {
        keeper.startGroup();
        keeper.join(kind, index);
        return keeper.writeGroup() ? answer : CUT;
    }

    // ---- the plan

    public int take(int desk) throws IllegalArgumentException, IllegalStateException {
        mustBeUp();
        mustBeIn(desk, 0, DESKS - 1);
        plan.bring(desk);
        return plan.version;
    }

    public int edit(int desk, int storey, int e, int n, int step, int kind)
            throws IllegalArgumentException, IllegalStateException {
        mustBeUp();
        mustBeIn(desk, 0, DESKS - 1);
        mustBeIn(storey, 0, STOREYS - 1);
        mustBeIn(e, 0, EDGES - 1);
        mustBeIn(n, 1, EDGES);
        mustBeIn(step, 1, EDGES);
        mustBeIn(kind, OPEN, GLASS);
        mustBeIn(e + (n - 1) * step, 0, EDGES - 1);
        int changed = 0;
        for (int i = 0; i < n; i++) {
            if (plan.drawEdge(desk, storey, e + i * step, kind)) {
                changed++;
            }
        }
        return changed;
    }

    public int merge(int desk) throws IllegalArgumentException, IllegalStateException {
        mustBeUp();
        mustBeIn(desk, 0, DESKS - 1);
        int conflicts = plan.countConflicts(desk);
        if (conflicts > 0) {
            return -conflicts;
        }
        if (plan.layTrial(desk) > MOST_SPACES) {
            return MANY;
        }
        keeper.startGroup();
        for (int storey = 0; storey < STOREYS; storey++) {
            if (plan.trialDiffers(storey)) {
                keeper.join(1, storey);
            }
        }
        plan.acceptTrial(desk);
        return keeper.writeGroup() ? plan.version : CUT;
    }

    public int conflict(int desk, int k) throws IllegalArgumentException, IllegalStateException {
        mustBeUp();
        mustBeIn(desk, 0, DESKS - 1);
        mustHold(k >= 0);
        int i = plan.findConflict(desk, k);
        return i == NONE ? NONE : 128 * (i / EDGES) + i % EDGES;
    }

    public int settle(int desk, int k, boolean mine) throws IllegalArgumentException, IllegalStateException {
        mustBeUp();
        mustBeIn(desk, 0, DESKS - 1);
        mustHold(k >= 0);
        int i = plan.findConflict(desk, k);
        if (i == NONE) {
            return NONE;
        }
        plan.decide(desk, i, mine);
        return plan.countConflicts(desk);
    }

    public int edge(int storey, int e) throws IllegalArgumentException, IllegalStateException {
        mustBeUp();
        mustBeIn(storey, 0, STOREYS - 1);
        mustBeIn(e, 0, EDGES - 1);
        return plan.edges[storey * EDGES + e];
    }

    public int draft(int desk, int storey, int e) throws IllegalArgumentException, IllegalStateException {
        mustBeUp();
        mustBeIn(desk, 0, DESKS - 1);
        mustBeIn(storey, 0, STOREYS - 1);
        mustBeIn(e, 0, EDGES - 1);
        return plan.drafts[desk][storey * EDGES + e];
    }

    public int version() throws IllegalStateException {
        mustBeUp();
        return plan.version;
    }

    public int spaces() throws IllegalStateException {
        mustBeUp();
        return plan.count;
    }

    public int space(int k, int what) throws IllegalArgumentException, IllegalStateException {
        mustBeUp();
        mustBeIn(k, 0, plan.count - 1);
        mustBeIn(what, 0, 6);
        return what == 6 ? (int) climate.warmthOf(plan, k) : plan.facts[what][k];
    }

    public int spaceAt(int storey, int cell) throws IllegalArgumentException, IllegalStateException {
        mustBeUp();
        mustBeIn(storey, 0, STOREYS - 1);
        mustBeIn(cell, 0, CELLS - 1);
        return plan.of[storey * CELLS + cell];
    }

    public int between(int a, int b, int kind) throws IllegalArgumentException, IllegalStateException {
        mustBeUp();
        mustBeIn(a, 0, plan.count - 1);
        mustBeIn(b, 0, plan.count - 1);
        mustBeIn(kind, 0, GLASS);
        if (a == b) {
            return 0;
        }
        return kind == 0 ? plan.countStacked(a, b) : plan.countWalls(a, b, kind);
    }

    // ---- what is told

    public int flat(int storey, int cell, int flat) throws IllegalArgumentException, IllegalStateException {
        mustBeUp();
        mustBeIn(storey, 0, STOREYS - 1);
        mustBeIn(cell, 0, CELLS - 1);
        mustHold(Plan.isFlat(flat));
        int at = storey * CELLS + cell;
        int before = plan.flats[at];
        plan.flats[at] = flat;
        plan.survey();
        return keep(2, storey, before);
    }

    public int people(int flat, int hour, int n) throws IllegalArgumentException, IllegalStateException {
        mustBeUp();
        mustBeIn(flat, 0, FLATS - 1);
        mustBeIn(hour, 0, HOURS - 1);
        mustBeIn(n, 0, Plan.MOST_PEOPLE);
        int at = flat * HOURS + hour;
        int before = plan.people[at];
        plan.people[at] = n;
        return keep(3, flat, before);
    }

    public int weather(int hour, int v) throws IllegalArgumentException, IllegalStateException {
        mustBeUp();
        mustBeIn(hour, 0, HOURS - 1);
        mustBeIn(v, Climate.COLDEST, Climate.HOTTEST);
        int before = climate.weather[hour];
        climate.weather[hour] = v;
        return keep(4, hour / 12, before);
    }

    public int sun(int side, int hour, int v) throws IllegalArgumentException, IllegalStateException {
        mustBeUp();
        mustBeIn(side, 0, 3);
        mustBeIn(hour, 0, HOURS - 1);
        mustBeIn(v, 0, Climate.MOST_SUN);
        int at = side * HOURS + hour;
        int before = climate.sun[at];
        climate.sun[at] = v;
        return keep(5, side, before);
    }

    public int rate(int circuit, int rating, int rank) throws IllegalArgumentException, IllegalStateException {
        mustBeUp();
        mustBeIn(circuit, 0, CIRCUITS - 1);
        mustBeIn(rating, 1, Supply.MOST_RATING);
        mustBeIn(rank, 0, Supply.MOST_RANK);
        int before = supply.circuits[Supply.RATING][circuit];
        supply.circuits[Supply.RATING][circuit] = rating;
        supply.circuits[Supply.RANK][circuit] = rank;
        keeper.startGroup();
        keeper.join(7, 0);
        keeper.join(7, 1);
        return keeper.writeGroup() ? before : CUT;
    }

    public int price(int what, int v) throws IllegalArgumentException, IllegalStateException {
        mustBeUp();
        mustBeIn(what, 0, 3);
        mustBeIn(v, 0, Books.mostOf(what));
        int before = books.prices[what];
        books.prices[what] = v;
        return keep(10, 0, before);
    }

    public int life(int part, int minutes) throws IllegalArgumentException, IllegalStateException {
        mustBeUp();
        mustBeIn(part, 0, PARTS - 1);
        mustBeIn(minutes, 1, Care.LONGEST_LIFE);
        int before = care.parts[Care.LIFE][part];
        care.parts[Care.LIFE][part] = minutes;
        return keep(11, part, before);
    }

    // ---- the program

    public int type(int c) throws IllegalArgumentException, IllegalStateException {
        mustBeUp();
        mustBeIn(c, Program.FIRST_CODE, Program.LAST_CODE);
        mustAllow(program.typedLength < Program.LONGEST);
        program.typed[program.typedLength] = c;
        program.typedLength++;
        return program.typedLength;
    }

    public int wipe() throws IllegalStateException {
        mustBeUp();
        int had = program.typedLength;
        program.typedLength = 0;
        return had;
    }

    public int load() throws IllegalStateException {
        mustBeUp();
        if (!program.tryTyped()) {
            return WRONG;
        }
        keeper.startGroup();
        for (int i = 0; i < 8; i++) {
            keeper.join(6, i);
        }
        return keeper.writeGroup() ? program.live.statements : CUT;
    }

    public int fault(int what) throws IllegalArgumentException, IllegalStateException {
        mustBeUp();
        mustBeIn(what, 0, 1);
        return what == 0 ? program.wrongFault : program.wrongPlace;
    }

    public int target(int k) throws IllegalArgumentException, IllegalStateException {
        mustBeUp();
        mustBeIn(k, 0, TARGETS - 1);
        return values[k];
    }

    // ---- minutes

    public int run(int n) throws IllegalArgumentException, IllegalStateException {
        mustBeUp();
        mustBeIn(n, 1, 120);
        mustAllow(books.time + n <= LAST_TIME);
        for (int i = 0; i < n; i++) {
            if (!passMinute()) {
                return CUT;
            }
        }
        return books.time;
    }

    public boolean mains(boolean on) throws IllegalStateException {
        mustBeUp();
        boolean before = supply.mains;
        supply.mains = on;
        return before;
    }

    public int fuel(int n) throws IllegalArgumentException, IllegalStateException {
        mustBeUp();
        mustBeIn(n, 0, Supply.MOST_FUEL);
        supply.fuel = Math.min(Supply.MOST_FUEL, supply.fuel + n);
        return supply.fuel;
    }

    public boolean reset(int circuit) throws IllegalArgumentException, IllegalStateException {
        mustBeUp();
        mustBeIn(circuit, 0, CIRCUITS - 1);
        if (supply.circuits[Supply.TRIPPED][circuit] == 0) {
            return false;
        }
        supply.circuits[Supply.TRIPPED][circuit] = 0;
        supply.circuits[Supply.HEATING][circuit] = 0;
        return true;
    }

    public int circuit(int circuit, int what) throws IllegalArgumentException, IllegalStateException {
        mustBeUp();
        mustBeIn(circuit, 0, CIRCUITS - 1);
        mustBeIn(what, 0, Supply.RANK);
        return supply.circuits[what][circuit];
    }

    public int state(int what) throws IllegalArgumentException, IllegalStateException {
        mustBeUp();
        mustBeIn(what, 0, 10);
        switch (what) {
            case 0:
                return supply.charge;
            case 1:
                return supply.fuel;
            case 2:
                return supply.without;
            case 3:
                return supply.tank;
            case 4:
                return supply.wanted ? 1 : 0;
            case 5:
                return supply.stored;
            case 6:
                return supply.cool;
            case 7:
                return supply.boilerGave;
            case 8:
                return supply.pumpRan ? 1 : 0;
            case 9:
                return supply.engineGave ? 1 : 0;
            default:
                return books.time;
        }
    }

    public long cell(int storey, int cell, int what) throws IllegalArgumentException, IllegalStateException {
        mustBeUp();
        mustBeIn(storey, 0, STOREYS - 1);
        mustBeIn(cell, 0, CELLS - 1);
        mustBeIn(what, 0, 5);
        int at = storey * CELLS + cell;
        switch (what) {
            case 0:
                return climate.heat[at];
            case 1:
                return climate.stale[at];
            case 2:
                return climate.moist[at];
            case 3:
                return climate.mould[at];
            case 4:
                return climate.flame[at];
            default:
                return climate.smoke[at];
        }
    }

    public boolean ignite(int storey, int cell) throws IllegalArgumentException, IllegalStateException {
        mustBeUp();
        mustBeIn(storey, 0, STOREYS - 1);
        mustBeIn(cell, 0, CELLS - 1);
        return climate.lightCell(storey * CELLS + cell);
    }

    public boolean detected(int space) throws IllegalArgumentException, IllegalStateException {
        mustBeUp();
        mustBeIn(space, 0, plan.count - 1);
        return climate.isDetected(plan, space);
    }

    public int alarms() throws IllegalStateException {
        mustBeUp();
        return watch.noted;
    }

    public int alarm(int k, int what) throws IllegalArgumentException, IllegalStateException {
        mustBeUp();
        mustBeIn(k, 0, Math.min(watch.noted, Watch.NOTES) - 1);
        mustBeIn(what, 0, 1);
        return watch.notes[what][(watch.noted - 1 - k) % Watch.NOTES];
    }

    // ---- doors and cards

    public int door(int storey, int e) throws IllegalArgumentException, IllegalStateException {
        mustBeUp();
        mustBeIn(storey, 0, STOREYS - 1);
        mustBeIn(e, 0, EDGES - 1);
        mustHold(Access.mayHaveDoor(storey, e));
        int number = access.freeDoor();
        if (number == NONE) {
            return FULL;
        }
        access.hang(number, storey, e);
        return keep(13, number, number);
    }

    public int card(int card, int rights, int from, int to, boolean blocked)
            throws IllegalArgumentException, IllegalStateException {
        mustBeUp();
        mustBeIn(card, 0, Access.CARDS - 1);
        mustBeIn(rights, 0, Access.ALL_RIGHTS);
        mustBeIn(from, 0, HOURS - 1);
        mustBeIn(to, 0, HOURS - 1);
        access.hand(card, rights, from, to, blocked ? 1 : 0);
        return keep(14, card, 0);
    }

    public int go(int card, int door) throws IllegalArgumentException, IllegalStateException {
        mustBeUp();
        mustHold(access.isCard(card));
        mustHold(access.isDoor(door));
        int answer = access.judge(plan, card, door, values[RELEASE] == 1, books.hourNow());
        if (answer == 0) {
            access.step(plan, card, door);
        }
        access.note(books.time, card, door, answer);
        return answer;
    }

    public int place(int card) throws IllegalArgumentException, IllegalStateException {
        mustBeUp();
        mustHold(access.isCard(card));
        return access.where[card];
    }

    public int inside(int space) throws IllegalArgumentException, IllegalStateException {
        mustBeUp();
        mustBeIn(space, 0, plan.count - 1);
        return access.countIn(plan, space);
    }

    public int log(int k, int what) throws IllegalArgumentException, IllegalStateException {
        mustBeUp();
        mustBeIn(k, 0, Math.min(access.logged, Access.LOG_ROWS) - 1);
        mustBeIn(what, 0, 3);
        return access.rows[what][(access.logged - 1 - k) % Access.LOG_ROWS];
    }

    // ---- trends

    public int point(int k, int kind, int index) throws IllegalArgumentException, IllegalStateException {
        mustBeUp();
        mustBeIn(k, 0, Watch.POINTS - 1);
        mustHold(Watch.isPoint(kind, index));
        watch.setPoint(k, kind, index);
        return keep(15, k, 0);
    }

    public long trend(int k, int i) throws IllegalArgumentException, IllegalStateException {
        mustBeUp();
        mustBeIn(k, 0, Watch.POINTS - 1);
        mustBeIn(i, 0, Math.min(watch.taken[k], Watch.VALUES) - 1);
        return watch.trends[k][(watch.taken[k] - 1 - i) % Watch.VALUES];
    }

    // ---- care

    public int ticket(int storey, int cell) throws IllegalArgumentException, IllegalStateException {
        mustBeUp();
        mustBeIn(storey, 0, STOREYS - 1);
        mustBeIn(cell, 0, CELLS - 1);
        int at = care.freePlace();
        if (at == NONE) {
            return FULL;
        }
        care.give(at, storey, cell, PARTS, books.time);
        return keep(12, at, care.tickets[Care.NUMBER][at]);
    }

    public int tickets() throws IllegalStateException {
        mustBeUp();
        return care.countTickets();
    }

    public int ticketOf(int k, int what) throws IllegalArgumentException, IllegalStateException {
        mustBeUp();
        mustBeIn(k, 0, care.countTickets() - 1);
        mustBeIn(what, 0, Care.HOLDER);
        int at = care.placeByNumber(k);
        return at == NONE ? NONE : care.tickets[what][at];
    }

    public int tour(int worker) throws IllegalArgumentException, IllegalStateException {
        mustBeUp();
        mustBeIn(worker, 0, Care.WORKERS - 1);
        mustAllow(care.visits[worker] == 0);
        return care.sendOut(worker, books.time);
    }

    public int worker(int worker, int what) throws IllegalArgumentException, IllegalStateException {
        mustBeUp();
        mustBeIn(worker, 0, Care.WORKERS - 1);
        mustBeIn(what, 0, 3);
        return care.tellWorker(worker, what);
    }

    public int order(int part, int n) throws IllegalArgumentException, IllegalStateException {
        mustBeUp();
        mustBeIn(part, 0, PARTS - 1);
        mustBeIn(n, 1, 9);
        if (care.orderCount >= Care.MOST_ORDERS) {
            return FULL;
        }
        return care.addOrder(part, n, books.time + Care.DELIVERY);
    }

    public int part(int part, int what) throws IllegalArgumentException, IllegalStateException {
        mustBeUp();
        mustBeIn(part, 0, PARTS - 1);
        mustBeIn(what, 0, Care.FAILED);
        return care.parts[what][part];
    }

    // ---- money

    public int meter(int flat, int what) throws IllegalArgumentException, IllegalStateException {
        mustBeUp();
        mustBeIn(flat, 0, HOUSE);
        mustBeIn(what, 0, WATER);
        return books.meters[what][flat];
    }

    public long account(int flat, int what) throws IllegalArgumentException, IllegalStateException {
        mustBeUp();
        mustBeIn(flat, 0, FLATS - 1);
        mustBeIn(what, 0, 1);
        return what == 0 ? books.balance[flat] : books.bill[flat];
    }

    public long money(int what) throws IllegalArgumentException, IllegalStateException {
        mustBeUp();
        mustBeIn(what, 0, 3);
        switch (what) {
            case 0:
                return books.cash;
            case 1:
                return books.lost;
            case 2:
                return books.gas;
            default:
                return books.care;
        }
    }

    public int pay(int flat, int cents) throws IllegalArgumentException, IllegalStateException {
        mustBeUp();
        mustBeIn(flat, 0, FLATS - 1);
        mustBeIn(cents, 1, 100000000);
        books.balance[flat] += cents;
        books.cash += cents;
        keeper.startGroup();
        keeper.join(8, flat);
        keeper.join(9, 0);
        return keeper.writeGroup() ? 0 : CUT;
    }

    // ---- the store

    public void crash(int n) throws IllegalArgumentException, IllegalStateException {
        mustBeUp();
        mustBeIn(n, NONE, 1000);
        store.wholeRows = n;
    }

    public int reopen() {
        int counting = store.open();
        keeper.beginAnew();
        return counting;
    }

    public boolean isDown() {
        return store.down;
    }

    public int rows(int what) throws IllegalArgumentException, IllegalStateException {
        mustBeUp();
        mustBeIn(what, 0, 3);
        switch (what) {
            case 0:
                return store.area;
            case 1:
                return store.generation;
            case 2:
                return store.used;
            default:
                return Store.countKeys(store.there);
        }
    }

    public int disk(int area, int row, int i) throws IllegalArgumentException, IllegalStateException {
        mustBeUp();
        mustBeIn(area, 0, 1);
        mustBeIn(row, 0, Store.ROWS - 1);
        mustBeIn(i, 0, Store.LINE - 1);
        return store.disk[area][row * Store.LINE + i];
    }

    // ---- the tape

    public int image() throws IllegalStateException {
        mustBeUp();
        keeper.makeTape();
        return keeper.tapeLength;
    }

    public int tape(int i) throws IllegalArgumentException, IllegalStateException {
        mustBeUp();
        mustBeIn(i, 0, keeper.tapeLength - 1);
        return keeper.tape[i];
    }

    public int feed(int b) throws IllegalArgumentException, IllegalStateException {
        mustBeUp();
        mustBeIn(b, 0, 255);
        mustAllow(keeper.reelLength < Keeper.REEL_BYTES);
        keeper.reel[keeper.reelLength] = b;
        keeper.reelLength++;
        return keeper.reelLength;
    }

    public int copy() throws IllegalStateException {
        mustBeUp();
        keeper.copyTape();
        return keeper.reelLength;
    }

    public int poke(int i, int b) throws IllegalArgumentException, IllegalStateException {
        mustBeUp();
        mustBeIn(i, 0, keeper.reelLength - 1);
        mustBeIn(b, 0, 255);
        int before = keeper.reel[i];
        keeper.reel[i] = b;
        return before;
    }

    public int empty() throws IllegalStateException {
        mustBeUp();
        int had = keeper.reelLength;
        keeper.reelLength = 0;
        return had;
    }

    public int put() throws IllegalStateException {
        mustBeUp();
        int fault = keeper.judgeReel();
        if (fault != 0) {
            return fault;
        }
        if (!keeper.takeReel()) {
            return CUT;
        }
        keeper.beginAnew();
        return 0;
    }

    // ---- what a minute does, in the document's order

    /** Answers whether the power held: a minute that is cut is not ended. */
    private boolean passMinute() {
        int hour = books.hourNow();
        if (!careForHouse()) {
            return false;
        }
        followProgram(hour);
        supplyPower(hour);
        supplyWater(hour);
        warm(hour);
        climate.air(plan, supply, values, hour);
        if (climate.fire) {
            climate.burn(plan, supply, values);
        }
        if (!wearParts()) {
            return false;
        }
        soundAlarms();
        return endMinute();
    }

    private boolean careForHouse() {
        for (int i = 0; i < Care.MOST_ORDERS && care.orderIsDue(books.time); i++) {
            int part = care.receiveOrder(books);
            keeper.startGroup();
            keeper.join(9, 0);
            keeper.join(11, part);
            if (!keeper.writeGroup()) {
                return false;
            }
        }
        for (int worker = 0; worker < Care.WORKERS; worker++) {
            int at = care.visitedAt(worker, books.time);
            if (at != NONE && !finishVisit(worker, at)) {
                return false;
            }
            care.freeIfBack(worker, books.time);
        }
        return true;
    }

    private boolean finishVisit(int worker, int at) {
        int part = care.tickets[Care.PART][at];
        care.finish(worker, at, books);
        keeper.startGroup();
        keeper.join(9, 0);
        if (part < PARTS) {
            keeper.join(11, part);
        }
        keeper.join(12, at);
        return keeper.writeGroup();
    }

    private void followProgram(int hour) {
        if (program.live.statements == 0) {
            return;
        }
        for (int flat = 0; flat < FLATS; flat++) {
            int heart = plan.hearts[flat];
            boolean has = heart != NONE;
            values[WARMTHS + flat] = has ? (int) climate.warmthOf(plan, heart) : 0;
            values[STALES + flat] = has ? (int) climate.stalePerCell(plan, heart) : 0;
            values[ALERTS + flat] = has && climate.isDetected(plan, heart) ? 1 : 0;
        }
        values[ANY_ALERT] = climate.isAnyDetected(plan) ? 1 : 0;
        values[OUTDOORS] = climate.weather[hour];
        values[HOUR] = hour;
        values[MINUTE] = books.time % DAY;
        values[TANK] = supply.tank;
        values[ALL_LOADS] = supply.sumLoads();
        values[MAINS] = supply.mains ? 1 : 0;
        program.perform();
    }

    private void supplyPower(int hour) {
        supply.setLoads(plan, values, hour);
        if (supply.mains) {
            supply.chargeUp();
        } else {
            supply.liveOnCharge(care.isFit(ENGINE));
        }
        supply.houseLive = supply.isLive(HOUSE);
        for (int c = 0; c < CIRCUITS; c++) {
            supply.heatCircuit(c);
            books.meters[POWER][c] += supply.circuits[Supply.LOAD][c];
        }
    }

    private void supplyWater(int hour) {
        supply.dry = false;
        for (int flat = 0; flat < FLATS; flat++) {
            books.meters[WATER][flat] += supply.drawWater(flat, plan.present(flat, hour), books.time);
        }
        supply.pumpUp(values[PUMPING] == 1 && care.isFit(PUMP));
        supply.cool = supply.stored < Supply.COOL_BELOW ? supply.cool + 1 : 0;
    }

    private void warm(int hour) {
        climate.flow(plan, hour);
        climate.warmHearts(plan, supply, hour);
        supply.boilerGave = 0;
        if (values[BOIL] == 1 && supply.houseLive && care.isFit(BOILER)) {
            climate.boil(plan, supply, books, values);
        }
        climate.settleHeat(plan);
    }

    private boolean wearParts() {
        care.wearOut(BOILER, supply.boilerGave > 0);
        care.wearOut(PUMP, supply.pumpRan);
        care.wearOut(ENGINE, supply.engineGave);
        for (int part = 0; part < PARTS; part++) {
            if (care.isSpent(part) && !failPart(part)) {
                return false;
            }
        }
        return true;
    }

    private boolean failPart(int part) {
        care.parts[Care.FAILED][part] = 1;
        keeper.startGroup();
        keeper.join(11, part);
        int at = care.freePlace();
        if (at != NONE) {
            care.give(at, 0, part, part, books.time);
            keeper.join(12, at);
        }
        return keeper.writeGroup();
    }

    private void soundAlarms() {
        int now = books.time;
        boolean stuffy = false;
        for (int flat = 0; flat < FLATS; flat++) {
            int heart = plan.hearts[flat];
            boolean cold = heart != NONE && values[flat] - climate.warmthOf(plan, heart) > Watch.COLD_BY;
            watch.sound(flat, watch.isLongCold(flat, cold), now);
            stuffy = stuffy || heart != NONE && climate.isStuffy(plan, heart);
        }
        watch.sound(10, supply.dry, now);
        watch.sound(11, supply.cool >= Watch.COOL_LONG, now);
        watch.sound(12, supply.isAny(Supply.TRIPPED), now);
        watch.sound(13, care.isAnyFailed(), now);
        watch.sound(14, supply.isAny(Supply.SHED), now);
        watch.sound(15, stuffy, now);
        watch.sound(16, climate.isAnyDetected(plan), now);
        watch.sound(17, climate.isMouldy(), now);
    }

    private boolean endMinute() {
        books.time++;
        if (books.time % 10 == 0) {
            notePoints();
        }
        if (books.time % MONTH == 0) {
            books.billAll(plan.areas);
        }
        return books.time % DAY != 0 || keepDay();
    }

    private void notePoints() {
        for (int k = 0; k < Watch.POINTS; k++) {
            if (watch.told[k] == 1) {
                watch.noteValue(k, measure(watch.kinds[k], watch.indices[k]));
            }
        }
    }

    private long measure(int kind, int index) {
        switch (kind) {
            case 0:
                return plan.hasHeart(index) ? climate.warmthOf(plan, plan.hearts[index]) : 0;
            case 1:
                return plan.hasHeart(index) ? climate.sumOf(plan, climate.stale, plan.hearts[index]) : 0;
            case 2:
                return supply.loadOf(index);
            case 3:
                return supply.tank;
            case 4:
                return supply.stored;
            case 5:
                return supply.charge;
            default:
                return books.gas;
        }
    }

    private boolean keepDay() {
        keeper.startGroup();
        for (int flat = 0; flat < FLATS; flat++) {
            keeper.join(8, flat);
        }
        keeper.join(9, 0);
        keeper.join(10, 0);
        for (int part = 0; part < PARTS; part++) {
            keeper.join(11, part);
        }
        return keeper.writeGroup();
    }

    /** The edges, what desks draw of them, the spaces that they close, and who lives there. */
    private static final class Plan {
        static final int MOST_PEOPLE = 20;

        /** The first rows of facts are in the order in which space() asks for them. */
        static final int STOREY = 0;
        static final int LEAST = 1;
        static final int SIZE = 2;
        static final int FLAT = 3;
        static final int HEAVIES = 4;
        static final int GLASSES = 5;
        static final int GLASS_BY_SIDE = 6;
        static final int LOSS = 10;
        static final int START = 11;
        static final int LISTED = 12;
        static final int FACTS = 13;

        /** Edges below this number stand between columns, the others between lines. */
        static final int UPRIGHT = 54;

        final int[] edges = new int[ALL_EDGES];
        final int[][] drafts = new int[DESKS][ALL_EDGES];
        final int[][] bases = new int[DESKS][ALL_EDGES];
        int version;
        final int[] trial = new int[ALL_EDGES];
        final int[] trialOf = new int[ALL_CELLS];
        final int[] queue = new int[CELLS];
        int count;
        final int[] of = new int[ALL_CELLS];
        final int[][] facts = new int[FACTS][MOST_SPACES];
        final int[] cells = new int[ALL_CELLS];
        final int[] weights = new int[MOST_SPACES * MOST_SPACES];
        final int[][] pairs = new int[3][MOST_SPACES * (MOST_SPACES - 1) / 2];
        int pairCount;
        final int[] damp = new int[ALL_CELLS];
        final int[] flats = new int[ALL_CELLS];
        final int[] hearts = new int[FLATS];
        final int[] areas = new int[FLATS];
        final int[] people = new int[FLATS * HOURS];

        static boolean isFlat(int flat) {
            return flat >= 0 && flat < FLATS || flat == NO_FLAT;
        }

        /** The side of the border (as the sun's) at which an edge stands, or NONE. */
        static int sideOf(int e) {
            if (e < UPRIGHT) {
                return e % 9 == 0 ? 0 : e % 9 == 8 ? 1 : NONE;
            }
            int line = (e - UPRIGHT) / 8;
            return line == 0 ? 2 : line == 6 ? 3 : NONE;
        }

        /** The cell left of an edge, or below it; NONE is the outside. */
        static int cellBefore(int e) {
            if (e < UPRIGHT) {
                return e % 9 == 0 ? NONE : e / 9 * 8 + e % 9 - 1;
            }
            return e < UPRIGHT + 8 ? NONE : e - UPRIGHT - 8;
        }

        /** The cell right of an edge, or above it; NONE is the outside. */
        static int cellBehind(int e) {
            if (e < UPRIGHT) {
                return e % 9 == 8 ? NONE : e / 9 * 8 + e % 9;
            }
            return e >= UPRIGHT + CELLS ? NONE : e - UPRIGHT;
        }

        static int edgeAt(int cell, int side) {
            int column = cell % 8;
            int line = cell / 8;
            switch (side) {
                case 0:
                    return line * 9 + column;
                case 1:
                    return line * 9 + column + 1;
                case 2:
                    return UPRIGHT + cell;
                default:
                    return UPRIGHT + cell + 8;
            }
        }

        static int neighbour(int cell, int side) {
            switch (side) {
                case 0:
                    return cell % 8 == 0 ? NONE : cell - 1;
                case 1:
                    return cell % 8 == 7 ? NONE : cell + 1;
                case 2:
                    return cell < 8 ? NONE : cell - 8;
                default:
                    return cell + 8 < CELLS ? cell + 8 : NONE;
            }
        }

        static int firstKind(int e) {
            return sideOf(e) == NONE ? OPEN : HEAVY;
        }

        static boolean mayBe(int e, int kind) {
            return sideOf(e) == NONE || kind == HEAVY || kind == GLASS;
        }

        void setFirst() {
            layFirst(edges);
            Arrays.fill(flats, NO_FLAT);
            Arrays.fill(people, 0);
            version = 0;
        }

        static void layFirst(int[] walls) {
            for (int i = 0; i < ALL_EDGES && i < walls.length; i++) {
                walls[i] = firstKind(i % EDGES);
            }
        }

        void bring(int desk) {
            System.arraycopy(edges, 0, drafts[desk], 0, ALL_EDGES);
            System.arraycopy(edges, 0, bases[desk], 0, ALL_EDGES);
        }

        boolean drawEdge(int desk, int storey, int e, int kind) {
            int i = storey * EDGES + e;
            if (!mayBe(e, kind) || drafts[desk][i] == kind) {
                return false;
            }
            drafts[desk][i] = kind;
            return true;
        }

        private boolean isMine(int desk, int i) {
            return drafts[desk][i] != bases[desk][i];
        }

        private boolean isConflict(int desk, int i) {
            return isMine(desk, i) && edges[i] != bases[desk][i] && edges[i] != drafts[desk][i];
        }

        int countConflicts(int desk) {
            int n = 0;
            for (int i = 0; i < ALL_EDGES; i++) {
                if (isConflict(desk, i)) {
                    n++;
                }
            }
            return n;
        }

        int findConflict(int desk, int k) {
            int n = 0;
            for (int i = 0; i < ALL_EDGES; i++) {
                if (isConflict(desk, i)) {
                    if (n == k) {
                        return i;
                    }
                    n++;
                }
            }
            return NONE;
        }

        void decide(int desk, int i, boolean mine) {
            bases[desk][i] = edges[i];
            if (!mine) {
                drafts[desk][i] = edges[i];
            }
        }

        /** Lays the merged plan aside, to be looked at first: how many spaces it would have. */
        int layTrial(int desk) {
            for (int i = 0; i < ALL_EDGES; i++) {
                trial[i] = isMine(desk, i) ? drafts[desk][i] : edges[i];
            }
            return countTrial();
        }

        int countTrial() {
            return divide(trial, trialOf);
        }

        boolean trialDiffers(int storey) {
            for (int e = 0; e < EDGES; e++) {
                if (trial[storey * EDGES + e] != edges[storey * EDGES + e]) {
                    return true;
                }
            }
            return false;
        }

        void acceptTrial(int desk) {
            System.arraycopy(trial, 0, edges, 0, ALL_EDGES);
            bring(desk);
            version++;
            survey();
        }

        private int divide(int[] walls, int[] into) {
            Arrays.fill(into, NONE);
            int n = 0;
            for (int at = 0; at < ALL_CELLS; at++) {
                if (into[at] == NONE) {
                    flood(walls, into, at, n);
                    n++;
                }
            }
            return n;
        }

        private void flood(int[] walls, int[] into, int first, int n) {
            int storey = first / CELLS;
            into[first] = n;
            queue[0] = first % CELLS;
            int end = 1;
            for (int i = 0; i < end && i < CELLS; i++) {
                for (int side = 0; side < 4; side++) {
                    int next = neighbour(queue[i], side);
                    if (next != NONE && end < CELLS && into[storey * CELLS + next] == NONE
                            && walls[storey * EDGES + edgeAt(queue[i], side)] == OPEN) {
                        into[storey * CELLS + next] = n;
                        queue[end] = next;
                        end++;
                    }
                }
            }
        }

        /** Finds the spaces anew, and all that follows from them alone. */
        void survey() {
            count = Math.min(divide(edges, of), MOST_SPACES);
            for (int row = 0; row < FACTS; row++) {
                Arrays.fill(facts[row], 0);
            }
            Arrays.fill(weights, 0);
            Arrays.fill(damp, 0);
            listCells();
            for (int i = 0; i < ALL_EDGES; i++) {
                int side = sideOf(i % EDGES);
                if (side == NONE) {
                    weighInner(i);
                } else {
                    weighBorder(i, side);
                }
            }
            weighCeilings();
            listPairs();
            findHearts();
        }

        private void listCells() {
            for (int at = 0; at < ALL_CELLS; at++) {
                // No plan with more spaces is ever taken; rows by spaces are safe all the same.
                of[at] = Math.min(of[at], MOST_SPACES - 1);
                int k = of[at];
                if (facts[SIZE][k] == 0) {
                    facts[STOREY][k] = at / CELLS;
                    facts[LEAST][k] = at % CELLS;
                    facts[FLAT][k] = flats[at];
                }
                facts[SIZE][k]++;
            }
            int start = 0;
            for (int k = 0; k < count; k++) {
                facts[START][k] = start;
                start += facts[SIZE][k];
            }
            for (int at = 0; at < ALL_CELLS; at++) {
                int k = of[at];
                cells[facts[START][k] + facts[LISTED][k]] = at;
                facts[LISTED][k]++;
            }
        }

        private void weighInner(int i) {
            int first = i / EDGES * CELLS;
            int a = of[first + cellBefore(i % EDGES)];
            int b = of[first + cellBehind(i % EDGES)];
            if (a != b) {
                int weight = edges[i] == LIGHT ? 3 : edges[i] == GLASS ? 5 : 1;
                weights[Math.min(a, b) * MOST_SPACES + Math.max(a, b)] += weight;
            }
        }

        private void weighBorder(int i, int side) {
            int e = i % EDGES;
            int at = i / EDGES * CELLS + Math.max(cellBefore(e), cellBehind(e));
            int k = of[at];
            if (edges[i] == GLASS) {
                facts[GLASSES][k]++;
                facts[GLASS_BY_SIDE + side][k]++;
                facts[LOSS][k] += 4;
            } else {
                facts[HEAVIES][k]++;
                facts[LOSS][k]++;
                damp[at] = 1;
            }
        }

        private void weighCeilings() {
            for (int at = 0; at < ALL_CELLS; at++) {
                if (at + CELLS < ALL_CELLS) {
                    weights[of[at] * MOST_SPACES + of[at + CELLS]]++;
                } else {
                    facts[LOSS][of[at]]++;
                }
            }
        }

        private void listPairs() {
            pairCount = 0;
            for (int a = 0; a < count; a++) {
                for (int b = a + 1; b < count; b++) {
                    int weight = weights[a * MOST_SPACES + b];
                    if (weight > 0) {
                        pairs[0][pairCount] = a;
                        pairs[1][pairCount] = b;
                        pairs[2][pairCount] = weight;
                        pairCount++;
                    }
                }
            }
        }

        private void findHearts() {
            Arrays.fill(hearts, NONE);
            Arrays.fill(areas, 0);
            for (int k = 0; k < count; k++) {
                int flat = facts[FLAT][k];
                if (flat < FLATS) {
                    areas[flat] += facts[SIZE][k];
                    if (hearts[flat] == NONE) {
                        hearts[flat] = k;
                    }
                }
            }
        }

        int countStacked(int a, int b) {
            int n = 0;
            for (int at = 0; at + CELLS < ALL_CELLS; at++) {
                if (areBoth(of[at], of[at + CELLS], a, b)) {
                    n++;
                }
            }
            return n;
        }

        int countWalls(int a, int b, int kind) {
            int n = 0;
            for (int i = 0; i < ALL_EDGES; i++) {
                int e = i % EDGES;
                int first = i / EDGES * CELLS;
                if (edges[i] == kind && sideOf(e) == NONE
                        && areBoth(of[first + cellBefore(e)], of[first + cellBehind(e)], a, b)) {
                    n++;
                }
            }
            return n;
        }

        private static boolean areBoth(int x, int y, int a, int b) {
            return x == a && y == b || x == b && y == a;
        }

        boolean hasHeart(int flat) {
            return flat >= 0 && flat < FLATS && hearts[flat] != NONE;
        }

        /** How many are in a flat's heart: none without one, whatever was told. */
        int present(int flat, int hour) {
            return hasHeart(flat) ? people[flat * HOURS + hour] : 0;
        }

        void writeEdges(int storey, int[] row, int at) {
            for (int e = 0; e < EDGES; e++) {
                row[at + e / 4] |= edges[storey * EDGES + e] << 2 * (e % 4);
            }
        }

        static void readEdges(int storey, int[] row, int at, int[] into) {
            for (int e = 0; e < EDGES; e++) {
                into[storey * EDGES + e] = row[at + e / 4] >> 2 * (e % 4) & 3;
            }
        }

        static boolean areEdges(int[] row, int at) {
            for (int e = 0; e < EDGES; e++) {
                if (!mayBe(e, row[at + e / 4] >> 2 * (e % 4) & 3)) {
                    return false;
                }
            }
            return row[at + 27] < 16;
        }

        void writeFlats(int storey, int[] row, int at) {
            for (int c = 0; c < CELLS; c++) {
                row[at + c / 2] |= flats[storey * CELLS + c] << 4 * (c % 2);
            }
        }

        void readFlats(int storey, int[] row, int at) {
            for (int c = 0; c < CELLS; c++) {
                flats[storey * CELLS + c] = row[at + c / 2] >> 4 * (c % 2) & 15;
            }
        }

        static boolean areFlats(int[] row, int at) {
            for (int c = 0; c < CELLS; c++) {
                if (!isFlat(row[at + c / 2] >> 4 * (c % 2) & 15)) {
                    return false;
                }
            }
            return Store.isBlank(row, at, 24);
        }
    }

    /** Reads a text as a program, and keeps it as steps for a stack. */
    private static final class Reader {
        static final int MOST_STATEMENTS = 12;
        static final int DEEPEST = 10;
        static final int MOST_DIGITS = 6;

        /** Tokens that are no sign; a sign is its own code. */
        static final int END = 0;
        static final int NUMBER = 1;
        static final int WORD = 2;

        /** Steps that no sign stands for; the others are the sign's code. */
        static final int PUSH = 0;
        static final int NAME = 1;
        static final int STORE = 2;
        static final int NEGATE = 3;

        /** What must come next. */
        static final int TARGET = 0;
        static final int EQUALS = 1;
        static final int OPERAND = 2;
        static final int OPERATOR = 3;

        /** How firmly signs between two operands bind; those that only open something bind nothing. */
        static final int COMPARES = 1;
        static final int ADDS = 2;
        static final int MULTIPLIES = 3;

        static final String SIGNS = "=;()+-*<>?:";
        static final String LONE_TARGETS = "lbpvrx";
        static final String LONE_FACTS = "fohtkem";

        final int[] text = new int[Program.LONGEST];
        int length;
        final int[] steps = new int[Program.LONGEST];
        final int[] operands = new int[Program.LONGEST];
        int stepCount;
        int statements;
        int fault;
        int faultPlace;
        int next;
        int start;
        int token;
        int value;
        int due;
        int goal;
        /** The signs that wait for what is behind them: ? becomes : when its second expression begins. */
        final int[] waiting = new int[Program.LONGEST];
        int waitCount;
        /** How many ( and - of a factor and ? stand round the next token. */
        int depth;

        /** Answers whether the text is a program. */
        boolean read(int[] source, int n) {
            length = Math.min(Math.min(n, source.length), Program.LONGEST);
            System.arraycopy(source, 0, text, 0, length);
            stepCount = 0;
            statements = 0;
            fault = 0;
            faultPlace = 0;
            next = 0;
            due = TARGET;
            waitCount = 0;
            depth = 0;
            boolean good = advance();
            // Each token has a character at least, and the end is one more.
            for (int i = 0; i <= Program.LONGEST && good && (token != END || due != TARGET); i++) {
                if (due == TARGET) {
                    good = readTarget();
                } else if (due == EQUALS) {
                    good = readEquals();
                } else if (due == OPERAND) {
                    good = readOperand();
                } else {
                    good = readOperator();
                }
                good = good && advance();
            }
            return good;
        }

        private boolean fail(int f) {
            fault = f;
            faultPlace = start;
            return false;
        }

        private static boolean isDigit(int c) {
            return c >= '0' && c <= '9';
        }

        private static boolean isLetter(int c) {
            return c >= 'a' && c <= 'z' || c >= 'A' && c <= 'Z';
        }

        /** Comes to the next token: faults 1 and 4 are found here, before all others of it. */
        private boolean advance() {
            while (next < length && text[next] == ' ') {
                next++;
            }
            start = next;
            if (next >= length) {
                token = END;
                return true;
            }
            int c = text[next];
            if (isDigit(c)) {
                return scanNumber();
            }
            if (isLetter(c)) {
                scanWord();
                return true;
            }
            if (SIGNS.indexOf((char) c) < 0) {
                return fail(1);
            }
            token = c;
            next++;
            return true;
        }

        private boolean scanNumber() {
            token = NUMBER;
            value = 0;
            while (next < length && isDigit(text[next])) {
                if (next - start < MOST_DIGITS) {
                    value = value * 10 + text[next] - '0';
                }
                next++;
            }
            return next - start <= MOST_DIGITS || fail(4);
        }

        private void scanWord() {
            token = WORD;
            while (next < length && (isLetter(text[next]) || isDigit(text[next]))) {
                next++;
            }
            value = NONE;
            if (next - start == 1) {
                value = loneName((char) text[start]);
            } else if (next - start == 2 && isDigit(text[start + 1])) {
                value = numberedName(text[start], text[start + 1] - '0');
            }
        }

        private static int loneName(char c) {
            int target = LONE_TARGETS.indexOf(c);
            if (target >= 0) {
                return LAMPS + target;
            }
            int fact = LONE_FACTS.indexOf(c);
            return fact >= 0 ? ANY_ALERT + fact : NONE;
        }

        private static int numberedName(int c, int digit) {
            switch (c) {
                case 's':
                    return digit;
                case 'w':
                    return WARMTHS + digit;
                case 'c':
                    return STALES + digit;
                case 'd':
                    return ALERTS + digit;
                default:
                    return NONE;
            }
        }

        private void addStep(int step, int operand) {
            if (stepCount < Program.LONGEST) {
                steps[stepCount] = step;
                operands[stepCount] = operand;
                stepCount++;
            }
        }

        private boolean readTarget() {
            if (statements >= MOST_STATEMENTS) {
                return fail(6);
            }
            if (token != WORD) {
                return fail(2);
            }
            if (value == NONE || value >= TARGETS) {
                return fail(3);
            }
            goal = value;
            statements++;
            due = EQUALS;
            return true;
        }

        private boolean readEquals() {
            due = OPERAND;
            return token == '=' || fail(2);
        }

        private boolean readOperand() {
            if (token == WORD && value == NONE) {
                return fail(3);
            }
            if (token == NUMBER || token == WORD) {
                addStep(token == NUMBER ? PUSH : NAME, value);
                endFactor();
                return true;
            }
            if (token != '-' && token != '(') {
                return fail(2);
            }
            return open(token == '-' ? NEGATE : '(');
        }

        /** Opens a ( or a - of a factor or a ?: all three count for the depth. */
        private boolean open(int sign) {
            if (depth >= DEEPEST) {
                return fail(5);
            }
            depth++;
            await(sign);
            return true;
        }

        private void await(int sign) {
            if (waitCount < Program.LONGEST) {
                waiting[waitCount] = sign;
                waitCount++;
            }
            due = OPERAND;
        }

        private int latest() {
            return waitCount > 0 ? waiting[waitCount - 1] : NONE;
        }

        private void endFactor() {
            for (; waitCount > 0 && latest() == NEGATE; waitCount--) {
                addStep(NEGATE, 0);
                depth--;
            }
            due = OPERATOR;
        }

        private boolean readOperator() {
            int firmness = firmnessOf(token);
            if (firmness > COMPARES) {
                reckonFrom(firmness);
                await(token);
                return true;
            }
            if (firmness == COMPARES) {
                reckonFrom(ADDS);
                if (firmnessOf(latest()) == COMPARES) {
                    return fail(2);
                }
                await(token);
                return true;
            }
            reckonFrom(COMPARES);
            return token == '?' ? open('?') : endExpression();
        }

        private static int firmnessOf(int sign) {
            switch (sign) {
                case '*':
                    return MULTIPLIES;
                case '+':
                case '-':
                    return ADDS;
                case '<':
                case '>':
                    return COMPARES;
                default:
                    return 0;
            }
        }

        /** What binds at least so firmly has both its operands now. */
        private void reckonFrom(int firmness) {
            for (; waitCount > 0 && firmnessOf(latest()) >= firmness; waitCount--) {
                addStep(latest(), 0);
            }
        }

        /** A : or ) or ; ends each expression behind a : as well as its own. */
        private boolean endExpression() {
            for (; waitCount > 0 && latest() == ':'; waitCount--) {
                addStep('?', 0);
                depth--;
            }
            if (token == ':' && latest() == '?') {
                waiting[waitCount - 1] = ':';
                due = OPERAND;
                return true;
            }
            if (token == ')' && latest() == '(') {
                waitCount--;
                depth--;
                endFactor();
                return true;
            }
            if (token == ';' && waitCount == 0) {
                addStep(STORE, goal);
                due = TARGET;
                return true;
            }
            return fail(2);
        }
    }

    /** The text that is typed, the program that counts, and the values of all names. */
    private static final class Program {
        static final int LONGEST = 196;
        static final int FIRST_CODE = 32;
        static final int LAST_CODE = 126;
        static final int LENGTH_KEY = 7;
        static final int BOUND = 1000000000;

        final int[] typed = new int[LONGEST];
        int typedLength;
        Reader live = new Reader();
        Reader other = new Reader();
        int wrongFault;
        int wrongPlace;
        final int[] values = new int[NAMES];
        final int[] stack = new int[LONGEST];
        final int[] found = new int[LONGEST];
        int foundLength;

        void setFirst() {
            typedLength = 0;
            wrongFault = NONE;
            wrongPlace = NONE;
            live.read(typed, 0);
            setTargets();
        }

        private void setTargets() {
            Arrays.fill(values, 0, FLATS, 200);
            Arrays.fill(values, FLATS, TARGETS, 1);
            values[RELEASE] = 0;
        }

        /** The text becomes the program if it is one; else its fault is kept. */
        boolean tryTyped() {
            if (!other.read(typed, typedLength)) {
                wrongFault = other.fault;
                wrongPlace = other.faultPlace;
                return false;
            }
            wrongFault = NONE;
            wrongPlace = NONE;
            exchange();
            return true;
        }

        private void exchange() {
            Reader before = live;
            live = other;
            other = before;
            setTargets();
        }

        void perform() {
            int top = 0;
            for (int i = 0; i < live.stepCount; i++) {
                top = doStep(live.steps[i], live.operands[i], top);
            }
        }

        /** Answers how many values the stack has then; the reader sees to it that it has enough. */
        private int doStep(int step, int operand, int top) {
            if (step == Reader.PUSH || step == Reader.NAME) {
                if (top < LONGEST) {
                    stack[top] = step == Reader.PUSH ? operand : values[operand];
                }
                return top + 1;
            }
            if (top < 1 || top > LONGEST) {
                return 0;
            }
            if (step == Reader.STORE) {
                tell(operand, stack[top - 1]);
                return top - 1;
            }
            if (step == Reader.NEGATE) {
                stack[top - 1] = -stack[top - 1];
                return top;
            }
            if (step == '?') {
                return pick(top);
            }
            if (top < 2) {
                return 0;
            }
            stack[top - 2] = reckon(step, stack[top - 2], stack[top - 1]);
            return top - 1;
        }

        private int pick(int top) {
            if (top < 3) {
                return 0;
            }
            stack[top - 3] = stack[top - 3] != 0 ? stack[top - 2] : stack[top - 1];
            return top - 2;
        }

        private static int reckon(int sign, int a, int b) {
            switch (sign) {
                case '+':
                    return limit((long) a + b);
                case '-':
                    return limit((long) a - b);
                case '*':
                    return limit((long) a * b);
                case '<':
                    return a < b ? 1 : 0;
                default:
                    return a > b ? 1 : 0;
            }
        }

        private static int limit(long v) {
            return (int) Math.max(-BOUND, Math.min(BOUND, v));
        }

        private void tell(int goal, int v) {
            if (goal < FLATS) {
                values[goal] = Math.max(50, Math.min(300, v));
            } else if (goal == VENTS) {
                values[goal] = Math.max(0, Math.min(9, v));
            } else {
                values[goal] = v == 0 ? 0 : 1;
            }
        }

        void writeText(int index, int[] row, int at) {
            if (index == LENGTH_KEY) {
                row[at] = live.length;
                return;
            }
            for (int i = 0; i < ROW_BYTES && index * ROW_BYTES + i < live.length; i++) {
                row[at + i] = live.text[index * ROW_BYTES + i];
            }
        }

        /** Lays out the text that the keys of kind 6 tell, in rows (absent ones are all 0), if they do. */
        boolean findText(int[] rows, int first) {
            int n = rows[first + LENGTH_KEY * ROW_BYTES];
            if (n > LONGEST || !Store.isBlank(rows, first + LENGTH_KEY * ROW_BYTES, 1)) {
                return false;
            }
            for (int i = 0; i < LONGEST; i++) {
                int c = rows[first + i];
                if (i < n ? c < FIRST_CODE || c > LAST_CODE : c != 0) {
                    return false;
                }
                found[i] = c;
            }
            foundLength = n;
            return true;
        }

        /** The program that the keys tell is loaded. */
        void restore(int[] rows, int first) {
            if (findText(rows, first) && other.read(found, foundLength)) {
                exchange();
            }
        }
    }

    /** Power and water. */
    private static final class Supply {
        static final int MOST_RATING = 500;
        static final int MOST_RANK = 9;
        static final int MOST_FUEL = 1000;
        static final int MOST_CHARGE = 3000;
        static final int MOST_TANK = 2000;
        static final int MOST_STORED = 20000;
        static final int COOL_BELOW = 5000;

        /** The rows of circuits, in the order in which circuit() asks for them. */
        static final int LOAD = 0;
        static final int HEATING = 1;
        static final int TRIPPED = 2;
        static final int SHED = 3;
        static final int RATING = 4;
        static final int RANK = 5;

        final int[][] circuits = new int[6][CIRCUITS];
        int charge;
        int fuel;
        int without;
        boolean mains;
        boolean engineGave;
        boolean houseLive;
        int tank;
        boolean wanted;
        boolean pumpRan;
        boolean dry;
        int stored;
        int cool;
        int boilerGave;
        final int[] hot = new int[FLATS];
        long seed;

        void setFirst() {
            for (int row = 0; row < 6; row++) {
                Arrays.fill(circuits[row], row == RATING ? 100 : 0);
            }
            charge = 1500;
            fuel = 100;
            without = 0;
            mains = true;
            engineGave = false;
            houseLive = true;
            tank = MOST_TANK;
            wanted = false;
            pumpRan = false;
            dry = false;
            stored = MOST_STORED;
            cool = 0;
            boilerGave = 0;
            Arrays.fill(hot, 0);
        }

        void setLoads(Plan plan, int[] values, int hour) {
            boolean dark = hour < 7 || hour >= 18;
            for (int flat = 0; flat < FLATS; flat++) {
                int n = plan.present(flat, hour);
                boolean lit = n > 0 && dark && values[LAMPS] == 1;
                circuits[LOAD][flat] = 15 * n + (lit ? 6 * plan.areas[flat] : 0);
            }
            circuits[LOAD][HOUSE] = 20 + 5 * values[VENTS] + (boilerGave > 0 ? 30 : 0) + (pumpRan ? 40 : 0);
            for (int c = 0; c < CIRCUITS; c++) {
                circuits[SHED][c] = 0;
                if (circuits[TRIPPED][c] == 1) {
                    circuits[LOAD][c] = 0;
                }
            }
        }

        int loadOf(int c) {
            return c >= 0 && c < CIRCUITS ? circuits[LOAD][c] : 0;
        }

        int sumLoads() {
            int sum = 0;
            for (int c = 0; c < CIRCUITS; c++) {
                sum += circuits[LOAD][c];
            }
            return sum;
        }

        void chargeUp() {
            engineGave = false;
            charge = Math.min(MOST_CHARGE, charge + 30);
            without = 0;
        }

        void liveOnCharge(boolean engineFit) {
            engineGave = without >= 2 && fuel > 0 && engineFit;
            int given = engineGave ? 150 : 0;
            if (engineGave) {
                fuel--;
            }
            without++;
            for (int i = 0; i < CIRCUITS && sumLoads() > given + charge; i++) {
                shedOne();
            }
            charge -= Math.max(0, sumLoads() - given);
        }

        private void shedOne() {
            int chosen = NONE;
            for (int c = 0; c < CIRCUITS; c++) {
                if (circuits[LOAD][c] > 0 && (chosen == NONE || circuits[RANK][c] >= circuits[RANK][chosen])) {
                    chosen = c;
                }
            }
            if (chosen != NONE) {
                circuits[LOAD][chosen] = 0;
                circuits[SHED][chosen] = 1;
            }
        }

        /** Asked before circuits heat: one that trips in this minute is still live in it. */
        boolean isLive(int c) {
            return circuits[TRIPPED][c] == 0 && circuits[SHED][c] == 0;
        }

        void heatCircuit(int c) {
            int over = circuits[LOAD][c] - circuits[RATING][c];
            if (over > 0 && circuits[RATING][c] > 0) {
                circuits[HEATING][c] += 1 + 10 * over / circuits[RATING][c];
            } else {
                circuits[HEATING][c] = Math.max(0, circuits[HEATING][c] - 2);
            }
            if (circuits[HEATING][c] >= 50) {
                circuits[TRIPPED][c] = 1;
            }
        }

        boolean isAny(int row) {
            for (int c = 0; c < CIRCUITS; c++) {
                if (circuits[row][c] == 1) {
                    return true;
                }
            }
            return false;
        }

        private int lot(int time, int flat) {
            long z = seed + 0x9E3779B97F4A7C15L * (16L * time + flat + 1);
            z = (z ^ z >>> 30) * 0xBF58476D1CE4E5B9L;
            z = (z ^ z >>> 27) * 0x94D049BB133111EBL;
            z = z ^ z >>> 31;
            return (int) ((z >>> 33) % 100);
        }

        /** Answers how much a flat took. */
        int drawWater(int flat, int n, int time) {
            hot[flat] = 0;
            if (n == 0 || lot(time, flat) >= 4 * n) {
                return 0;
            }
            int cold = Math.min(6, tank);
            hot[flat] = Math.min(4, tank - cold);
            int took = cold + hot[flat];
            dry = dry || took < 10;
            tank -= took;
            stored = Math.max(0, stored - 40 * hot[flat]);
            return took;
        }

        void pumpUp(boolean ready) {
            wanted = wanted || tank < 500;
            pumpRan = wanted && ready && houseLive;
            if (pumpRan) {
                tank = Math.min(MOST_TANK, tank + 60);
                wanted = tank < MOST_TANK;
            }
        }

        void writeRatings(int index, int[] row, int at) {
            for (int c = 0; c < CIRCUITS; c++) {
                if (index == 0) {
                    Store.write(row, at + 2 * c, 2, circuits[RATING][c]);
                } else {
                    row[at + c] = circuits[RANK][c];
                }
            }
        }

        void readRatings(int index, int[] row, int at) {
            for (int c = 0; c < CIRCUITS; c++) {
                if (index == 0) {
                    circuits[RATING][c] = (int) Store.read(row, at + 2 * c, 2);
                } else {
                    circuits[RANK][c] = row[at + c];
                }
            }
        }

        static boolean areRatings(int index, int[] row, int at) {
            for (int c = 0; c < CIRCUITS; c++) {
                boolean legal = index == 0
                        ? Store.isIn(Store.read(row, at + 2 * c, 2), 1, MOST_RATING)
                        : row[at + c] <= MOST_RANK;
                if (!legal) {
                    return false;
                }
            }
            return Store.isBlank(row, at, index == 0 ? 2 * CIRCUITS : CIRCUITS);
        }
    }

    /** Heat, air, mould and fire of all cells. */
    private static final class Climate {
        static final int COLDEST = -400;
        static final int HOTTEST = 500;
        static final int MOST_SUN = 200;

        final int[] weather = new int[HOURS];
        final int[] sun = new int[4 * HOURS];
        final long[] heat = new long[ALL_CELLS];
        final long[] stale = new long[ALL_CELLS];
        final long[] moist = new long[ALL_CELLS];
        final long[] smoke = new long[ALL_CELLS];
        final int[] mould = new int[ALL_CELLS];
        final int[] flame = new int[ALL_CELLS];
        /** Whether some cell has a flame or smoke; without one the whole step of fire is idle. */
        boolean fire;
        final long[] sums = new long[MOST_SPACES];
        final long[] warmths = new long[MOST_SPACES];
        final long[] needs = new long[MOST_SPACES + 1];
        final long[] shares = new long[MOST_SPACES + 1];
        final long[] rests = new long[MOST_SPACES + 1];
        final long[] drift = new long[ALL_CELLS];
        final int[] before = new int[ALL_CELLS];

        void setFirst() {
            Arrays.fill(weather, 0);
            Arrays.fill(sun, 0);
            Arrays.fill(heat, 18000);
            Arrays.fill(stale, 0);
            Arrays.fill(moist, 0);
            Arrays.fill(smoke, 0);
            Arrays.fill(mould, 0);
            Arrays.fill(flame, 0);
            fire = false;
        }

        long sumOf(Plan plan, long[] amounts, int k) {
            long sum = 0;
            int start = plan.facts[Plan.START][k];
            for (int i = 0; i < plan.facts[Plan.SIZE][k]; i++) {
                sum += amounts[plan.cells[start + i]];
            }
            return sum;
        }

        private static long perCells(long amount, int unit, int size) {
            return unit * size > 0 ? Math.floorDiv(amount, (long) unit * size) : 0;
        }

        long warmthOf(Plan plan, int k) {
            return perCells(sumOf(plan, heat, k), 100, plan.facts[Plan.SIZE][k]);
        }

        long stalePerCell(Plan plan, int k) {
            return perCells(sumOf(plan, stale, k), 1, plan.facts[Plan.SIZE][k]);
        }

        boolean isStuffy(Plan plan, int k) {
            return sumOf(plan, stale, k) > 1000L * plan.facts[Plan.SIZE][k];
        }

        boolean isDetected(Plan plan, int k) {
            return fire && sumOf(plan, smoke, k) > 20L * plan.facts[Plan.SIZE][k];
        }

        boolean isAnyDetected(Plan plan) {
            for (int k = 0; k < plan.count && fire; k++) {
                if (isDetected(plan, k)) {
                    return true;
                }
            }
            return false;
        }

        boolean isMouldy() {
            for (int at = 0; at < ALL_CELLS; at++) {
                if (mould[at] >= 500) {
                    return true;
                }
            }
            return false;
        }

        private void gather(Plan plan, long[] amounts) {
            for (int k = 0; k < plan.count; k++) {
                sums[k] = sumOf(plan, amounts, k);
            }
        }

        private void spread(Plan plan, long[] amounts) {
            for (int k = 0; k < plan.count; k++) {
                int size = plan.facts[Plan.SIZE][k];
                int start = plan.facts[Plan.START][k];
                long each = perCells(sums[k], 1, size);
                long rest = sums[k] - each * size;
                for (int i = 0; i < size; i++) {
                    amounts[plan.cells[start + i]] = i < rest ? each + 1 : each;
                }
            }
        }

        private void measureWarmths(Plan plan) {
            for (int k = 0; k < plan.count; k++) {
                warmths[k] = perCells(sums[k], 100, plan.facts[Plan.SIZE][k]);
            }
        }

        /** All flows go by the warmths as they are before any of them. */
        void flow(Plan plan, int hour) {
            gather(plan, heat);
            measureWarmths(plan);
            for (int i = 0; i < plan.pairCount; i++) {
                int a = plan.pairs[0][i];
                int b = plan.pairs[1][i];
                long moved = (warmths[a] - warmths[b]) * plan.pairs[2][i] / 10;
                sums[a] -= moved;
                sums[b] += moved;
            }
            for (int k = 0; k < plan.count; k++) {
                sums[k] -= (warmths[k] - weather[hour]) * plan.facts[Plan.LOSS][k] / 10;
                for (int side = 0; side < 4; side++) {
                    sums[k] += plan.facts[Plan.GLASS_BY_SIDE + side][k] * (sun[side * HOURS + hour] / 10);
                }
            }
        }

        void warmHearts(Plan plan, Supply supply, int hour) {
            for (int flat = 0; flat < FLATS; flat++) {
                int heart = plan.hearts[flat];
                if (heart != NONE) {
                    sums[heart] += 8 * plan.present(flat, hour) + 3 * supply.loadOf(flat);
                }
            }
        }

        void boil(Plan plan, Supply supply, Books books, int[] values) {
            int n = plan.count;
            long wanted = 0;
            for (int k = 0; k < n; k++) {
                int size = plan.facts[Plan.SIZE][k];
                int flat = plan.facts[Plan.FLAT][k];
                long lack = 100L * size * (flat < FLATS ? values[flat] : 150) - sums[k];
                needs[k] = Math.min(60L * size, Math.max(0, lack));
                wanted += needs[k];
            }
            needs[n] = Math.min(300, Supply.MOST_STORED - supply.stored);
            wanted += needs[n];
            long given = Math.min(books.prices[Books.CAP], wanted);
            Books.share(given, needs, n + 1, shares, rests);
            for (int k = 0; k < n; k++) {
                sums[k] += shares[k];
                books.meters[HEAT][Math.min(plan.facts[Plan.FLAT][k], HOUSE)] += (int) shares[k];
            }
            supply.stored += (int) shares[n];
            books.meters[HEAT][HOUSE] += (int) shares[n];
            books.gas += (int) ((11 * given + 9) / 10);
            supply.boilerGave = (int) given;
        }

        /** The warmths are kept for the mould, which goes by heat as it is spread here. */
        void settleHeat(Plan plan) {
            measureWarmths(plan);
            spread(plan, heat);
        }

        void air(Plan plan, Supply supply, int[] values, int hour) {
            gather(plan, stale);
            for (int flat = 0; flat < FLATS; flat++) {
                if (plan.hearts[flat] != NONE) {
                    sums[plan.hearts[flat]] += 20 * plan.present(flat, hour);
                }
            }
            int vents = supply.houseLive ? 10 * values[VENTS] : 0;
            ventilate(plan, vents);
            spread(plan, stale);
            gather(plan, moist);
            for (int flat = 0; flat < FLATS; flat++) {
                if (plan.hearts[flat] != NONE) {
                    sums[plan.hearts[flat]] += 5 * plan.present(flat, hour) + 2 * supply.hot[flat];
                }
            }
            ventilate(plan, vents);
            spread(plan, moist);
            growMould(plan);
        }

        private void ventilate(Plan plan, int vents) {
            for (int k = 0; k < plan.count; k++) {
                sums[k] -= sums[k] * (2 * plan.facts[Plan.GLASSES][k] + vents) / 1000;
            }
        }

        private void growMould(Plan plan) {
            for (int at = 0; at < ALL_CELLS; at++) {
                if (plan.damp[at] == 1) {
                    boolean grows = warmths[plan.of[at]] < 130 && moist[at] > 300;
                    mould[at] = grows ? Math.min(1000, mould[at] + 1) : Math.max(0, mould[at] - 1);
                }
            }
        }

        boolean lightCell(int at) {
            if (flame[at] > 0) {
                return false;
            }
            flame[at] = 10;
            fire = true;
            return true;
        }

        void burn(Plan plan, Supply supply, int[] values) {
            growFlames();
            lightNeighbours(plan);
            driftSmoke(plan);
            if (supply.houseLive) {
                ventSmoke(values[VENTS]);
            }
            if (values[SPRINKLERS] == 1) {
                sprinkle(plan, supply);
            }
            fire = isAnyLeft();
        }

        private void growFlames() {
            for (int at = 0; at < ALL_CELLS; at++) {
                before[at] = flame[at];
                if (flame[at] > 0) {
                    smoke[at] += 2 * flame[at];
                    heat[at] += 50 * flame[at];
                    flame[at] = Math.min(100, flame[at] + 10);
                }
            }
        }

        private void lightNeighbours(Plan plan) {
            for (int at = 0; at < ALL_CELLS; at++) {
                if (before[at] == 100) {
                    for (int side = 0; side < 4; side++) {
                        int next = Plan.neighbour(at % CELLS, side);
                        int e = at / CELLS * EDGES + Plan.edgeAt(at % CELLS, side);
                        if (next != NONE && plan.edges[e] == OPEN) {
                            lightCell(at / CELLS * CELLS + next);
                        }
                    }
                }
            }
        }

        /** All edges go by the smoke as it is before any of it drifts. */
        private void driftSmoke(Plan plan) {
            System.arraycopy(smoke, 0, drift, 0, ALL_CELLS);
            for (int i = 0; i < ALL_EDGES; i++) {
                int e = i % EDGES;
                if (plan.edges[i] == OPEN && Plan.sideOf(e) == NONE) {
                    int a = i / EDGES * CELLS + Plan.cellBefore(e);
                    int b = i / EDGES * CELLS + Plan.cellBehind(e);
                    long moved = (drift[a] - drift[b]) / 4;
                    smoke[a] -= moved;
                    smoke[b] += moved;
                }
            }
        }

        private void ventSmoke(int vents) {
            for (int at = 0; at < ALL_CELLS; at++) {
                smoke[at] -= smoke[at] * vents / 50;
            }
        }

        private void sprinkle(Plan plan, Supply supply) {
            for (int k = 0; k < plan.count; k++) {
                if (isDetected(plan, k)) {
                    int start = plan.facts[Plan.START][k];
                    for (int i = 0; i < plan.facts[Plan.SIZE][k]; i++) {
                        int at = plan.cells[start + i];
                        if (flame[at] > 0 && supply.tank >= 10) {
                            supply.tank -= 10;
                            flame[at] = Math.max(0, flame[at] - 30);
                        }
                    }
                }
            }
        }

        private boolean isAnyLeft() {
            for (int at = 0; at < ALL_CELLS; at++) {
                if (flame[at] > 0 || smoke[at] > 0) {
                    return true;
                }
            }
            return false;
        }

        void writeWeather(int index, int[] row, int at) {
            for (int i = 0; i < 12; i++) {
                Store.write(row, at + 2 * i, 2, weather[12 * index + i]);
            }
        }

        void readWeather(int index, int[] row, int at) {
            for (int i = 0; i < 12; i++) {
                weather[12 * index + i] = (int) Store.read(row, at + 2 * i, 2);
            }
        }

        static boolean isWeather(int[] row, int at) {
            for (int i = 0; i < 12; i++) {
                if (!Store.isIn(Store.read(row, at + 2 * i, 2), COLDEST, HOTTEST)) {
                    return false;
                }
            }
            return Store.isBlank(row, at, 24);
        }
    }

    /** Alarms and trended points. */
    private static final class Watch {
        static final int KINDS = 18;
        static final int NOTES = 32;
        static final int COLD_BY = 30;
        static final int COLD_LONG = 30;
        static final int COOL_LONG = 240;
        static final int POINTS = 8;
        static final int VALUES = 48;
        static final int GAS_KIND = 6;

        final int[] coldMinutes = new int[FLATS];
        final boolean[] on = new boolean[KINDS];
        /** Kinds and times, as alarm() asks for them; a ring. */
        final int[][] notes = new int[2][NOTES];
        int noted;
        final int[] told = new int[POINTS];
        final int[] kinds = new int[POINTS];
        final int[] indices = new int[POINTS];
        final long[][] trends = new long[POINTS][VALUES];
        /** How many values a point ever had since it was told; the latest are kept in a ring. */
        final int[] taken = new int[POINTS];

        void setFirst() {
            Arrays.fill(coldMinutes, 0);
            for (int kind = 0; kind < KINDS; kind++) {
                on[kind] = false;
            }
            noted = 0;
            Arrays.fill(told, 0);
            Arrays.fill(taken, 0);
        }

        boolean isLongCold(int flat, boolean cold) {
            coldMinutes[flat] = cold ? coldMinutes[flat] + 1 : 0;
            return coldMinutes[flat] >= COLD_LONG;
        }

        void sound(int kind, boolean now, int time) {
            if (now && !on[kind]) {
                notes[0][noted % NOTES] = kind;
                notes[1][noted % NOTES] = time;
                noted++;
            }
            on[kind] = now;
        }

        static boolean isPoint(int kind, int index) {
            if (kind < 0 || kind > GAS_KIND || index < 0) {
                return false;
            }
            return kind < 2 ? index < FLATS : kind == 2 ? index < CIRCUITS : index == 0;
        }

        void setPoint(int k, int kind, int index) {
            told[k] = 1;
            kinds[k] = kind;
            indices[k] = index;
            taken[k] = 0;
        }

        void noteValue(int k, long v) {
            trends[k][taken[k] % VALUES] = v;
            taken[k]++;
        }

        void writePoint(int k, int[] row, int at) {
            row[at] = told[k];
            row[at + 1] = kinds[k];
            row[at + 2] = indices[k];
        }
    }

    /** Doors, cards, and the log of who went. */
    private static final class Access {
        static final int DOORS = 20;
        static final int CARDS = 40;
        static final int ALL_RIGHTS = (1 << DOORS) - 1;
        static final int LOG_ROWS = 64;

        final int[] doors = new int[DOORS];
        final int[] doorStoreys = new int[DOORS];
        final int[] doorEdges = new int[DOORS];
        final int[] cards = new int[CARDS];
        final int[] froms = new int[CARDS];
        final int[] tos = new int[CARDS];
        final int[] blocked = new int[CARDS];
        final int[] rights = new int[CARDS];
        final int[] where = new int[CARDS];
        /** Times, cards, doors and answers, as log() asks for them; a ring. */
        final int[][] rows = new int[4][LOG_ROWS];
        int logged;

        void setFirst() {
            Arrays.fill(doors, 0);
            Arrays.fill(cards, 0);
            Arrays.fill(where, NONE);
            logged = 0;
        }

        static boolean mayHaveDoor(int storey, int e) {
            return storey == 0 || Plan.sideOf(e) == NONE;
        }

        int freeDoor() {
            for (int d = 0; d < DOORS; d++) {
                if (doors[d] == 0) {
                    return d;
                }
            }
            return NONE;
        }

        void hang(int d, int storey, int e) {
            doors[d] = 1;
            doorStoreys[d] = storey;
            doorEdges[d] = e;
        }

        void hand(int card, int allowed, int from, int to, int isBlocked) {
            cards[card] = 1;
            froms[card] = from;
            tos[card] = to;
            blocked[card] = isBlocked;
            rights[card] = allowed;
        }

        boolean isDoor(int d) {
            return d >= 0 && d < DOORS && doors[d] == 1;
        }

        boolean isCard(int card) {
            return card >= 0 && card < CARDS && cards[card] == 1;
        }

        /** The absolute cell before a door (NONE: outside). */
        private int near(int d) {
            int c = Plan.cellBefore(doorEdges[d]);
            return c == NONE ? NONE : doorStoreys[d] * CELLS + c;
        }

        /** The absolute cell behind a door (NONE: outside). */
        private int far(int d) {
            int c = Plan.cellBehind(doorEdges[d]);
            return c == NONE ? NONE : doorStoreys[d] * CELLS + c;
        }

        /** Whether one who stands at a cell (or outside) is where a door's side leads. */
        private static boolean meets(Plan plan, int standing, int side) {
            if (standing == NONE || side == NONE) {
                return standing == side;
            }
            return plan.of[standing] == plan.of[side];
        }

        int judge(Plan plan, int card, int d, boolean released, int hour) {
            if (!meets(plan, where[card], near(d)) && !meets(plan, where[card], far(d))) {
                return 4;
            }
            if (released) {
                return 0;
            }
            if (blocked[card] == 1) {
                return 3;
            }
            if ((rights[card] >> d & 1) == 0) {
                return 1;
            }
            return isItsHour(card, hour) ? 0 : 2;
        }

        private boolean isItsHour(int card, int hour) {
            boolean begun = hour >= froms[card];
            boolean notOver = hour <= tos[card];
            return froms[card] > tos[card] ? begun || notOver : begun && notOver;
        }

        /** Asked first whether it stands near: of two cells of one space the greater is entered. */
        void step(Plan plan, int card, int d) {
            where[card] = meets(plan, where[card], near(d)) ? far(d) : near(d);
        }

        void note(int time, int card, int d, int answer) {
            int at = logged % LOG_ROWS;
            rows[0][at] = time;
            rows[1][at] = card;
            rows[2][at] = d;
            rows[3][at] = answer;
            logged++;
        }

        int countIn(Plan plan, int k) {
            int n = 0;
            for (int card = 0; card < CARDS; card++) {
                if (where[card] != NONE && plan.of[where[card]] == k) {
                    n++;
                }
            }
            return n;
        }

        void writeDoor(int d, int[] row, int at) {
            row[at] = doors[d];
            row[at + 1] = doorStoreys[d];
            row[at + 2] = doorEdges[d];
        }

        static boolean isDoorRow(int[] row, int at) {
            return row[at] == 1 && row[at + 1] < STOREYS && row[at + 2] < EDGES
                    && mayHaveDoor(row[at + 1], row[at + 2]) && Store.isBlank(row, at, 3);
        }

        void writeCard(int card, int[] row, int at) {
            row[at] = cards[card];
            row[at + 1] = froms[card];
            row[at + 2] = tos[card];
            row[at + 3] = blocked[card];
            Store.write(row, at + 4, 4, rights[card]);
        }

        void readCard(int card, int[] row, int at) {
            hand(card, (int) Store.read(row, at + 4, 4), row[at + 1], row[at + 2], row[at + 3]);
        }

        static boolean isCardRow(int[] row, int at) {
            return row[at] == 1 && row[at + 1] < HOURS && row[at + 2] < HOURS && row[at + 3] < 2
                    && Store.isIn(Store.read(row, at + 4, 4), 0, ALL_RIGHTS) && Store.isBlank(row, at, 8);
        }
    }

    /** Tickets, workers, orders and parts. */
    private static final class Care {
        static final int TICKETS = 16;
        static final int WORKERS = 2;
        static final int MOST_VISITS = 6;
        static final int VISIT = 15;
        static final int VISIT_COST = 500;
        static final int MOST_ORDERS = 8;
        static final int DELIVERY = 480;
        static final int PART_COST = 3000;
        static final int MOST_STOCK = 99;
        static final int LONGEST_LIFE = 100000;
        static final int LAST_NUMBER = 1000000000;

        /** The rows of tickets, in the order in which ticketOf() asks for them. */
        static final int NUMBER = 0;
        static final int STOREY = 1;
        static final int CELL = 2;
        static final int PART = 3;
        static final int GIVEN = 4;
        static final int HOLDER = 5;

        /** The rows of parts, in the order in which part() asks for them. */
        static final int LIFE = 0;
        static final int WEAR = 1;
        static final int STOCK = 2;
        static final int FAILED = 3;

        /** The rows of orders. */
        static final int OF = 0;
        static final int HOW_MANY = 1;
        static final int DUE = 2;

        final int[][] tickets = new int[6][TICKETS];
        final int[] there = new int[TICKETS];
        int nextNumber;
        final int[][] parts = new int[4][PARTS];
        final int[][] orders = new int[3][MOST_ORDERS];
        int orderCount;
        /** How many visits a worker's tour has; 0: the worker is free. */
        final int[] visits = new int[WORKERS];
        final int[] visited = new int[WORKERS];
        final int[][] tourPlaces = new int[WORKERS][MOST_VISITS];
        final int[][] tourTimes = new int[WORKERS][MOST_VISITS];
        final int[] backTimes = new int[WORKERS];
        final int[] chosen = new int[MOST_VISITS];
        /** By the set of those visited and the last of them: the least way from there on. */
        final int[][] leastWays = new int[1 << MOST_VISITS][MOST_VISITS];

        void setFirst() {
            Arrays.fill(there, 0);
            nextNumber = 0;
            Arrays.fill(parts[LIFE], 5000);
            Arrays.fill(parts[WEAR], 0);
            Arrays.fill(parts[STOCK], 0);
            Arrays.fill(parts[FAILED], 0);
            orderCount = 0;
            Arrays.fill(visits, 0);
        }

        int freePlace() {
            for (int at = 0; at < TICKETS; at++) {
                if (there[at] == 0) {
                    return at;
                }
            }
            return NONE;
        }

        void give(int at, int storey, int cell, int part, int time) {
            setTicket(at, storey, cell, part);
            tickets[NUMBER][at] = nextNumber;
            tickets[GIVEN][at] = time;
            nextNumber++;
        }

        private void setTicket(int at, int storey, int cell, int part) {
            there[at] = 1;
            tickets[STOREY][at] = storey;
            tickets[CELL][at] = cell;
            tickets[PART][at] = part;
            tickets[HOLDER][at] = NONE;
        }

        int countTickets() {
            int n = 0;
            for (int at = 0; at < TICKETS; at++) {
                n += there[at];
            }
            return n;
        }

        /** The place of the ticket with the least number above another, or NONE. */
        private int placeAbove(int number) {
            int found = NONE;
            for (int at = 0; at < TICKETS; at++) {
                if (there[at] == 1 && tickets[NUMBER][at] > number
                        && (found == NONE || tickets[NUMBER][at] < tickets[NUMBER][found])) {
                    found = at;
                }
            }
            return found;
        }

        int placeByNumber(int k) {
            int at = placeAbove(NONE);
            for (int i = 0; i < k && at != NONE; i++) {
                at = placeAbove(tickets[NUMBER][at]);
            }
            return at;
        }

        int sendOut(int worker, int time) {
            int n = choose(worker);
            if (n == 0) {
                return 0;
            }
            measureWays(n);
            visits[worker] = n;
            visited[worker] = 0;
            layTour(worker, n, time);
            return n;
        }

        private int choose(int worker) {
            int n = 0;
            int at = placeAbove(NONE);
            for (int i = 0; i < TICKETS && at != NONE && n < MOST_VISITS; i++) {
                if (tickets[HOLDER][at] == NONE && isStocked(tickets[PART][at])) {
                    tickets[HOLDER][at] = worker;
                    chosen[n] = at;
                    n++;
                }
                at = placeAbove(tickets[NUMBER][at]);
            }
            return n;
        }

        /** Each ticket that a worker has for a part is sure of one of its stock. */
        private boolean isStocked(int part) {
            if (part >= PARTS) {
                return true;
            }
            int held = 0;
            for (int at = 0; at < TICKETS; at++) {
                if (there[at] == 1 && tickets[PART][at] == part && tickets[HOLDER][at] != NONE) {
                    held++;
                }
            }
            return parts[STOCK][part] > held;
        }

        private static int way(int a, int b) {
            return Math.abs(a % 8 - b % 8) + Math.abs(a % CELLS / 8 - b % CELLS / 8)
                    + 10 * Math.abs(a / CELLS - b / CELLS);
        }

        private int spot(int i) {
            return tickets[STOREY][chosen[i]] * CELLS + tickets[CELL][chosen[i]];
        }

        private void measureWays(int n) {
            for (int set = (1 << n) - 1; set > 0; set--) {
                for (int last = 0; last < n; last++) {
                    int next = bestNext(n, set, spot(last));
                    leastWays[set][last] = next == NONE ? way(spot(last), 0) : wayOver(set, spot(last), next);
                }
            }
        }

        private int wayOver(int set, int from, int next) {
            return way(from, spot(next)) + leastWays[set | 1 << next][next];
        }

        /** Of several that are as good, the first: chosen tickets stand by their numbers. */
        private int bestNext(int n, int set, int from) {
            int best = NONE;
            for (int next = 0; next < n; next++) {
                if ((set >> next & 1) == 0 && (best == NONE || wayOver(set, from, next) < wayOver(set, from, best))) {
                    best = next;
                }
            }
            return best;
        }

        private void layTour(int worker, int n, int time) {
            int set = 0;
            int from = 0;
            int clock = time;
            for (int i = 0; i < n; i++) {
                int next = bestNext(n, set, from);
                if (next != NONE) {
                    clock += way(from, spot(next)) + VISIT;
                    tourPlaces[worker][i] = chosen[next];
                    tourTimes[worker][i] = clock;
                    set |= 1 << next;
                    from = spot(next);
                }
            }
            backTimes[worker] = clock + way(from, 0);
        }

        int tellWorker(int worker, int what) {
            int left = visits[worker] == 0 ? 0 : visits[worker] - visited[worker];
            if (what == 0) {
                return left;
            }
            if (what == 3) {
                return visits[worker] == 0 ? NONE : backTimes[worker];
            }
            if (left == 0) {
                return NONE;
            }
            int i = visited[worker];
            return what == 1 ? tickets[NUMBER][tourPlaces[worker][i]] : tourTimes[worker][i];
        }

        /** The place of the ticket whose visit is over at a time, or NONE. */
        int visitedAt(int worker, int time) {
            int i = visited[worker];
            if (i >= visits[worker] || tourTimes[worker][i] != time) {
                return NONE;
            }
            return tourPlaces[worker][i];
        }

        void finish(int worker, int at, Books books) {
            visited[worker]++;
            there[at] = 0;
            books.care += VISIT_COST;
            int part = tickets[PART][at];
            if (part < PARTS) {
                parts[STOCK][part]--;
                parts[WEAR][part] = 0;
                parts[FAILED][part] = 0;
            }
        }

        void freeIfBack(int worker, int time) {
            if (visits[worker] > 0 && backTimes[worker] == time) {
                visits[worker] = 0;
                visited[worker] = 0;
            }
        }

        int addOrder(int part, int n, int due) {
            orders[OF][orderCount] = part;
            orders[HOW_MANY][orderCount] = n;
            orders[DUE][orderCount] = due;
            orderCount++;
            return due;
        }

        boolean orderIsDue(int time) {
            return orderCount > 0 && orders[DUE][0] == time;
        }

        /** The first order comes: it is the earliest, since all take equally long. */
        int receiveOrder(Books books) {
            int part = orders[OF][0];
            int n = orders[HOW_MANY][0];
            parts[STOCK][part] = Math.min(MOST_STOCK, parts[STOCK][part] + n);
            books.care += PART_COST * n;
            orderCount--;
            for (int row = 0; row < 3; row++) {
                System.arraycopy(orders[row], 1, orders[row], 0, orderCount);
            }
            return part;
        }

        boolean isFit(int part) {
            return parts[FAILED][part] == 0;
        }

        boolean isAnyFailed() {
            return !isFit(BOILER) || !isFit(PUMP) || !isFit(ENGINE);
        }

        void wearOut(int part, boolean used) {
            if (used) {
                parts[WEAR][part]++;
            }
        }

        boolean isSpent(int part) {
            return isFit(part) && parts[WEAR][part] >= parts[LIFE][part];
        }

        void writePart(int part, int[] row, int at) {
            Store.write(row, at, 4, parts[LIFE][part]);
            Store.write(row, at + 4, 4, parts[WEAR][part]);
            Store.write(row, at + 8, 4, parts[STOCK][part]);
            row[at + 12] = parts[FAILED][part];
        }

        void readPart(int part, int[] row, int at) {
            parts[LIFE][part] = (int) Store.read(row, at, 4);
            parts[WEAR][part] = (int) Store.read(row, at + 4, 4);
            parts[STOCK][part] = (int) Store.read(row, at + 8, 4);
            parts[FAILED][part] = row[at + 12];
        }

        static boolean isPartRow(int[] row, int at) {
            return Store.isIn(Store.read(row, at, 4), 1, LONGEST_LIFE)
                    && Store.isIn(Store.read(row, at + 4, 4), 0, Books.MOST)
                    && Store.isIn(Store.read(row, at + 8, 4), 0, MOST_STOCK)
                    && row[at + 12] < 2 && Store.isBlank(row, at, 13);
        }

        void writeTicket(int place, int[] row, int at) {
            if (there[place] == 0) {
                return;
            }
            row[at] = 1;
            row[at + 1] = tickets[STOREY][place];
            row[at + 2] = tickets[CELL][place];
            row[at + 3] = tickets[PART][place];
            Store.write(row, at + 4, 4, tickets[GIVEN][place]);
            Store.write(row, at + 8, 4, tickets[NUMBER][place]);
        }

        void readTicket(int place, int[] row, int at) {
            if (row[at] == 0) {
                return;
            }
            setTicket(place, row[at + 1], row[at + 2], row[at + 3]);
            tickets[GIVEN][place] = (int) Store.read(row, at + 4, 4);
            tickets[NUMBER][place] = (int) Store.read(row, at + 8, 4);
            nextNumber = Math.max(nextNumber, tickets[NUMBER][place] + 1);
        }

        static boolean isTicketRow(int[] row, int at) {
            if (row[at] == 0) {
                return Store.isBlank(row, at, 0);
            }
            return row[at] == 1 && row[at + 1] < STOREYS && row[at + 2] < CELLS && row[at + 3] <= PARTS
                    && Store.isIn(Store.read(row, at + 4, 4), 0, LAST_TIME)
                    && Store.isIn(Store.read(row, at + 8, 4), 0, LAST_NUMBER)
                    && Store.isBlank(row, at, 12);
        }
    }

    /** The time, the meters and all money. */
    private static final class Books {
        static final int CAP = 0;
        static final int GAS_PRICE = 1;
        static final int POWER_PRICE = 2;
        static final int WATER_PRICE = 3;
        /** The greatest number of meters, gas, care and wear that an image may tell. */
        static final int MOST = 100000000;
        static final long MOST_MONEY = 1000000000000000L;
        static final int LAST_TOLD_TIME = 1000000;

        int time;
        long cash;
        long lost;
        int gas;
        int care;
        final int[][] meters = new int[3][CIRCUITS];
        final long[] balance = new long[FLATS];
        final long[] bill = new long[FLATS];
        final int[] prices = new int[4];
        final long[] numbers = new long[FLATS];
        final long[] shares = new long[FLATS];
        final long[] rests = new long[FLATS];

        static int mostOf(int what) {
            return what == CAP ? 20000 : 1000;
        }

        void setFirst() {
            time = 0;
            cash = 0;
            lost = 0;
            Arrays.fill(balance, 0);
            Arrays.fill(bill, 0);
            Arrays.fill(prices, 0);
            prices[CAP] = 5000;
            clearMonth();
        }

        private void clearMonth() {
            for (int row = 0; row < 3; row++) {
                Arrays.fill(meters[row], 0);
            }
            gas = 0;
            care = 0;
        }

        int hourNow() {
            return time / 10 % HOURS;
        }

        /** TO SHARE n in the first so many numbers; answers whether it could be shared. */
        static boolean share(long n, long[] numbers, int count, long[] shares, long[] rests) {
            long sum = 0;
            for (int i = 0; i < count; i++) {
                sum += numbers[i];
                shares[i] = 0;
            }
            if (sum <= 0) {
                return false;
            }
            long left = n;
            for (int i = 0; i < count; i++) {
                shares[i] = n * numbers[i] / sum;
                rests[i] = n * numbers[i] % sum;
                left -= shares[i];
            }
            for (int i = 0; i < count && left > 0; i++) {
                int first = greatest(rests, count);
                shares[first]++;
                rests[first] = NONE;
                left--;
            }
            return true;
        }

        private static int greatest(long[] rests, int count) {
            int first = 0;
            for (int i = 1; i < count; i++) {
                if (rests[i] > rests[first]) {
                    first = i;
                }
            }
            return first;
        }

        void billAll(int[] areas) {
            Arrays.fill(bill, 0);
            long forGas = (long) gas * prices[GAS_PRICE] / 100;
            long forPower = sumMeters(POWER) * prices[POWER_PRICE] / 100;
            long forWater = sumMeters(WATER) * prices[WATER_PRICE] / 100;
            long byHeat = forGas * 7 / 10;
            chargeByMeters(byHeat, HEAT, areas);
            chargeByAreas(forGas - byHeat, areas);
            chargeByMeters(forPower, POWER, areas);
            chargeByMeters(forWater, WATER, areas);
            chargeByAreas(care, areas);
            cash -= forGas + forPower + forWater + care;
            for (int flat = 0; flat < FLATS; flat++) {
                balance[flat] -= bill[flat];
            }
            clearMonth();
        }

        private long sumMeters(int row) {
            long sum = 0;
            for (int i = 0; i < CIRCUITS; i++) {
                sum += meters[row][i];
            }
            return sum;
        }

        private void chargeByMeters(long cost, int row, int[] areas) {
            for (int flat = 0; flat < FLATS; flat++) {
                numbers[flat] = meters[row][flat];
            }
            if (share(cost, numbers, FLATS, shares, rests)) {
                addShares();
            } else {
                chargeByAreas(cost, areas);
            }
        }

        private void chargeByAreas(long cost, int[] areas) {
            for (int flat = 0; flat < FLATS; flat++) {
                numbers[flat] = areas[flat];
            }
            if (share(cost, numbers, FLATS, shares, rests)) {
                addShares();
            } else {
                lost += cost;
            }
        }

        private void addShares() {
            for (int flat = 0; flat < FLATS; flat++) {
                bill[flat] += shares[flat];
            }
        }

        void writeFlat(int flat, int[] row, int at) {
            Store.write(row, at, 8, balance[flat]);
            Store.write(row, at + 8, 8, bill[flat]);
            Store.write(row, at + 16, 4, meters[HEAT][flat]);
            Store.write(row, at + 20, 4, meters[POWER][flat]);
            Store.write(row, at + 24, 4, meters[WATER][flat]);
        }

        void readFlat(int flat, int[] row, int at) {
            balance[flat] = Store.read(row, at, 8);
            bill[flat] = Store.read(row, at + 8, 8);
            meters[HEAT][flat] = (int) Store.read(row, at + 16, 4);
            meters[POWER][flat] = (int) Store.read(row, at + 20, 4);
            meters[WATER][flat] = (int) Store.read(row, at + 24, 4);
        }

        static boolean isFlatRow(int[] row, int at) {
            return isSum(row, at) && isSum(row, at + 8)
                    && isAmount(row, at + 16) && isAmount(row, at + 20) && isAmount(row, at + 24);
        }

        private static boolean isSum(int[] row, int at) {
            return Store.isIn(Store.read(row, at, 8), -MOST_MONEY, MOST_MONEY);
        }

        private static boolean isAmount(int[] row, int at) {
            return Store.isIn(Store.read(row, at, 4), 0, MOST);
        }

        void writeCash(int[] row, int at) {
            Store.write(row, at, 4, time);
            Store.write(row, at + 4, 8, cash);
            Store.write(row, at + 12, 8, lost);
            Store.write(row, at + 20, 4, gas);
            Store.write(row, at + 24, 4, care);
        }

        void readCash(int[] row, int at) {
            time = (int) Store.read(row, at, 4);
            cash = Store.read(row, at + 4, 8);
            lost = Store.read(row, at + 12, 8);
            gas = (int) Store.read(row, at + 20, 4);
            care = (int) Store.read(row, at + 24, 4);
        }

        static boolean isCashRow(int[] row, int at) {
            return Store.isIn(Store.read(row, at, 4), 0, LAST_TOLD_TIME) && isSum(row, at + 4)
                    && isSum(row, at + 12) && isAmount(row, at + 20) && isAmount(row, at + 24);
        }

        void writePrices(int[] row, int at) {
            Store.write(row, at, 4, meters[POWER][HOUSE]);
            Store.write(row, at + 4, 4, meters[HEAT][HOUSE]);
            for (int what = 0; what < 4; what++) {
                Store.write(row, at + 8 + 4 * what, 4, prices[what]);
            }
        }

        void readPrices(int[] row, int at) {
            meters[POWER][HOUSE] = (int) Store.read(row, at, 4);
            meters[HEAT][HOUSE] = (int) Store.read(row, at + 4, 4);
            for (int what = 0; what < 4; what++) {
                prices[what] = (int) Store.read(row, at + 8 + 4 * what, 4);
            }
        }

        static boolean isPriceRow(int[] row, int at) {
            for (int what = 0; what < 4; what++) {
                if (!Store.isIn(Store.read(row, at + 8 + 4 * what, 4), 0, mostOf(what))) {
                    return false;
                }
            }
            return isAmount(row, at) && isAmount(row, at + 4) && Store.isBlank(row, at, 24);
        }
    }

    /** The disk with its two areas, and the keys as they were written last. */
    private static final class Store {
        static final int ROWS = 200;
        static final int LINE = 48;
        /** Where the number, the generation, the 28 bytes and the check of a row begin. */
        static final int NUMBER_AT = 4;
        static final int GENERATION_AT = 8;
        static final int BYTES_AT = 12;
        static final int CHECK_AT = 44;
        /** What of a row is written when the power fails in it. */
        static final int CUT_BYTES = 24;
        static final int MOST_GROUP = 16;
        static final int LAST_KIND = 15;
        /** The first key of each kind from 1 on, and behind them how many keys there are. */
        static final int[] FIRST_KEY = {0, 5, 10, 20, 22, 26, 34, 36, 46, 47, 48, 51, 67, 87, 127, 135};
        /** The check sums of four bits each. */
        static final int[] SUMS = {
            0x00000000, 0x1DB71064, 0x3B6E20C8, 0x26D930AC, 0x76DC4190, 0x6B6B51F4, 0x4DB26158, 0x5005713C,
            0xEDB88320, 0xF00F9344, 0xD6D6A3E8, 0xCB61B38C, 0x9B64C2B0, 0x86D3D2D4, 0xA00AE278, 0xBDBDF21C};

        final int[][] disk = new int[2][ROWS * LINE];
        final int[] keys = new int[KEYS * ROW_BYTES];
        final int[] there = new int[KEYS];
        final int[] line = new int[LINE];
        int area;
        int generation;
        int used;
        boolean down;
        /** How many rows more are written whole before the power fails; NONE: it does not. */
        int wholeRows;
        final int[] group = new int[MOST_GROUP];
        final int[] staged = new int[MOST_GROUP * ROW_BYTES];
        int groupCount;

        Store() {
            wholeRows = NONE;
            generation = 1;
            used = 1;
            compose(0, 0, true, 0, 1);
            writeLine(0, 0);
        }

        static void write(int[] to, int at, int bytes, long v) {
            for (int i = 0; i < bytes; i++) {
                to[at + i] = (int) (v >>> 8 * i) & 255;
            }
        }

        static long read(int[] from, int at, int bytes) {
            long v = 0;
            for (int i = 0; i < bytes; i++) {
                v |= (long) from[at + i] << 8 * i;
            }
            int above = 64 - 8 * bytes;
            return v << above >> above;
        }

        static boolean isIn(long v, long least, long most) {
            return v >= least && v <= most;
        }

        /** Whether all bytes of a row from one of them on are 0. */
        static boolean isBlank(int[] row, int at, int from) {
            for (int i = from; i < ROW_BYTES; i++) {
                if (row[at + i] != 0) {
                    return false;
                }
            }
            return true;
        }

        static int checkSum(int[] from, int at, int n) {
            int sum = NONE;
            for (int i = 0; i < n; i++) {
                sum ^= from[at + i];
                sum = sum >>> 4 ^ SUMS[sum & 15];
                sum = sum >>> 4 ^ SUMS[sum & 15];
            }
            return ~sum;
        }

        /** The key of a kind and an index, or NONE. */
        static int keyOf(int kind, int index) {
            if (kind < 1 || kind > LAST_KIND || index < 0) {
                return NONE;
            }
            int key = FIRST_KEY[kind - 1] + index;
            return key < FIRST_KEY[kind] ? key : NONE;
        }

        static int kindOf(int key) {
            for (int kind = 1; kind < LAST_KIND; kind++) {
                if (key < FIRST_KEY[kind]) {
                    return kind;
                }
            }
            return LAST_KIND;
        }

        static int indexOf(int key) {
            return key - FIRST_KEY[kindOf(key) - 1];
        }

        static int countKeys(int[] present) {
            int n = 0;
            for (int key = 0; key < KEYS; key++) {
                n += present[key];
            }
            return n;
        }

        private void compose(int kind, int index, boolean last, int row, int age) {
            Arrays.fill(line, 0);
            line[0] = kind;
            line[1] = index;
            line[2] = last ? 1 : 0;
            write(line, NUMBER_AT, 4, row);
            write(line, GENERATION_AT, 4, age);
        }

        /** Answers whether the row was written whole. */
        private boolean writeLine(int to, int row) {
            if (wholeRows == 0) {
                line[3] = 1;
                System.arraycopy(line, 0, disk[to], row * LINE, CUT_BYTES);
                down = true;
                return false;
            }
            if (wholeRows > 0) {
                wholeRows--;
            }
            write(line, CHECK_AT, 4, checkSum(line, 0, CHECK_AT));
            System.arraycopy(line, 0, disk[to], row * LINE, LINE);
            return true;
        }

        private int ageOf(int where, int row) {
            return (int) read(disk[where], row * LINE + GENERATION_AT, 4);
        }

        /** Writes keys as a snapshot to the other area, which is in use then. */
        boolean snapshot(int[] rows, int[] present) {
            int to = 1 - area;
            int age = 1 + Math.max(generation, Math.max(ageOf(to, 0), ageOf(to, 1)));
            int count = countKeys(present);
            int row = 0;
            for (int key = 0; key < KEYS; key++) {
                if (present[key] == 1) {
                    row++;
                    compose(kindOf(key), indexOf(key), row == count, row, age);
                    System.arraycopy(rows, key * ROW_BYTES, line, BYTES_AT, ROW_BYTES);
                    if (!writeLine(to, row)) {
                        return false;
                    }
                }
            }
            compose(0, 0, true, 0, age);
            write(line, BYTES_AT, 4, count);
            if (!writeLine(to, 0)) {
                return false;
            }
            area = to;
            generation = age;
            used = count + 1;
            return true;
        }

        boolean hasRoom() {
            return used + groupCount <= ROWS;
        }

        /** Writes the staged group; the snapshot before it has the keys as they were. */
        boolean append() {
            for (int i = 0; i < groupCount; i++) {
                compose(kindOf(group[i]), indexOf(group[i]), i == groupCount - 1, used, generation);
                System.arraycopy(staged, i * ROW_BYTES, line, BYTES_AT, ROW_BYTES);
                if (!writeLine(area, used)) {
                    return false;
                }
                used++;
            }
            for (int i = 0; i < groupCount; i++) {
                System.arraycopy(staged, i * ROW_BYTES, keys, group[i] * ROW_BYTES, ROW_BYTES);
                there[group[i]] = 1;
            }
            return true;
        }

        void replaceKeys(int[] rows, int[] present) {
            System.arraycopy(rows, 0, keys, 0, KEYS * ROW_BYTES);
            System.arraycopy(present, 0, there, 0, KEYS);
        }

        /** Reopening: answers how many rows count behind the head. */
        int open() {
            int first = snapshotRows(0);
            int second = snapshotRows(1);
            boolean isSecond = second != NONE && (first == NONE || ageOf(1, 0) > ageOf(0, 0));
            area = isSecond ? 1 : 0;
            generation = ageOf(area, 0);
            int count = lastCounting(area, Math.max(0, isSecond ? second : first));
            Arrays.fill(keys, 0);
            Arrays.fill(there, 0);
            for (int row = 1; row <= count; row++) {
                int at = row * LINE;
                int key = keyOf(disk[area][at], disk[area][at + 1]);
                if (key != NONE) {
                    System.arraycopy(disk[area], at + BYTES_AT, keys, key * ROW_BYTES, ROW_BYTES);
                    there[key] = 1;
                }
            }
            used = count + 1;
            down = false;
            return count;
        }

        private boolean isWhole(int where, int row) {
            int at = row * LINE;
            return disk[where][at + 3] != 1
                    && (int) read(disk[where], at + CHECK_AT, 4) == checkSum(disk[where], at, CHECK_AT)
                    && read(disk[where], at + NUMBER_AT, 4) == row;
        }

        private boolean isKeyRow(int where, int row, int age) {
            int at = row * LINE;
            return isWhole(where, row) && ageOf(where, row) == age
                    && keyOf(disk[where][at], disk[where][at + 1]) != NONE;
        }

        private boolean isLast(int where, int row) {
            return disk[where][row * LINE + 2] == 1;
        }

        /** How many rows the snapshot of an area has; NONE if the area is not good. */
        private int snapshotRows(int where) {
            int count = (int) read(disk[where], BYTES_AT, 4);
            if (!isWhole(where, 0) || disk[where][0] != 0 || disk[where][1] != 0 || !isLast(where, 0)
                    || count < 0 || count >= ROWS) {
                return NONE;
            }
            for (int row = 1; row <= count; row++) {
                if (!isKeyRow(where, row, ageOf(where, 0))) {
                    return NONE;
                }
            }
            return count == 0 || isLast(where, count) ? count : NONE;
        }

        /** The last row that counts: that of a whole group, or of the snapshot. */
        private int lastCounting(int where, int snapshot) {
            int counting = snapshot;
            for (int row = snapshot + 1; row < ROWS && isKeyRow(where, row, generation); row++) {
                if (isLast(where, row)) {
                    counting = row;
                }
            }
            return counting;
        }
    }

    /** Has all that is durable, and brings it into rows, onto the tape, and back. */
    private static final class Keeper {
        static final int REEL_BYTES = 4100;
        static final int TAPE_BYTES = 6 + KEYS * (ROW_BYTES + 2);
        static final int TEXT_KEY = 26;
        static final int TICKET_KEY = 51;

        final Plan plan = new Plan();
        final Program program = new Program();
        final Supply supply = new Supply();
        final Climate climate = new Climate();
        final Watch watch = new Watch();
        final Access access = new Access();
        final Care care = new Care();
        final Books books = new Books();
        final Store store = new Store();
        final int[] tape = new int[TAPE_BYTES];
        int tapeLength;
        final int[] reel = new int[REEL_BYTES];
        int reelLength;
        final int[] fresh = new int[KEYS * ROW_BYTES];
        final int[] freshThere = new int[KEYS];

        /** All is as at first but what the keys tell. */
        void beginAnew() {
            plan.setFirst();
            program.setFirst();
            supply.setFirst();
            climate.setFirst();
            watch.setFirst();
            access.setFirst();
            care.setFirst();
            books.setFirst();
            tapeLength = 0;
            reelLength = 0;
            store.wholeRows = NONE;
            for (int key = 0; key < KEYS; key++) {
                if (store.there[key] == 1) {
                    decode(Store.kindOf(key), Store.indexOf(key), store.keys, key * ROW_BYTES);
                }
            }
            program.restore(store.keys, TEXT_KEY * ROW_BYTES);
            plan.survey();
            for (int desk = 0; desk < DESKS; desk++) {
                plan.bring(desk);
            }
        }

        void startGroup() {
            store.groupCount = 0;
        }

        void join(int kind, int index) {
            int key = Store.keyOf(kind, index);
            if (key != NONE && store.groupCount < Store.MOST_GROUP) {
                store.group[store.groupCount] = key;
                store.groupCount++;
            }
        }

        /** Answers whether all rows were written whole. */
        boolean writeGroup() {
            for (int i = 0; i < store.groupCount; i++) {
                int key = store.group[i];
                encode(Store.kindOf(key), Store.indexOf(key), store.staged, i * ROW_BYTES);
            }
            if (!store.hasRoom() && !store.snapshot(store.keys, store.there)) {
                return false;
            }
            return store.append();
        }

        private void encode(int kind, int index, int[] row, int at) {
            Arrays.fill(row, at, at + ROW_BYTES, 0);
            switch (kind) {
                case 1:
                    plan.writeEdges(index, row, at);
                    break;
                case 2:
                    plan.writeFlats(index, row, at);
                    break;
                case 3:
                    System.arraycopy(plan.people, index * HOURS, row, at, HOURS);
                    break;
                case 4:
                    climate.writeWeather(index, row, at);
                    break;
                case 5:
                    System.arraycopy(climate.sun, index * HOURS, row, at, HOURS);
                    break;
                case 6:
                    program.writeText(index, row, at);
                    break;
                case 7:
                    supply.writeRatings(index, row, at);
                    break;
                case 8:
                    books.writeFlat(index, row, at);
                    break;
                case 9:
                    books.writeCash(row, at);
                    break;
                case 10:
                    books.writePrices(row, at);
                    break;
                case 11:
                    care.writePart(index, row, at);
                    break;
                case 12:
                    care.writeTicket(index, row, at);
                    break;
                case 13:
                    access.writeDoor(index, row, at);
                    break;
                case 14:
                    access.writeCard(index, row, at);
                    break;
                default:
                    watch.writePoint(index, row, at);
                    break;
            }
        }

        private void decode(int kind, int index, int[] row, int at) {
            switch (kind) {
                case 1:
                    Plan.readEdges(index, row, at, plan.edges);
                    break;
                case 2:
                    plan.readFlats(index, row, at);
                    break;
                case 3:
                    System.arraycopy(row, at, plan.people, index * HOURS, HOURS);
                    break;
                case 4:
                    climate.readWeather(index, row, at);
                    break;
                case 5:
                    System.arraycopy(row, at, climate.sun, index * HOURS, HOURS);
                    break;
                case 6:
                    // Its keys are read together, when all of them are there.
                    break;
                case 7:
                    supply.readRatings(index, row, at);
                    break;
                case 8:
                    books.readFlat(index, row, at);
                    break;
                case 9:
                    books.readCash(row, at);
                    break;
                case 10:
                    books.readPrices(row, at);
                    break;
                case 11:
                    care.readPart(index, row, at);
                    break;
                case 12:
                    care.readTicket(index, row, at);
                    break;
                case 13:
                    access.hang(index, row[at + 1], row[at + 2]);
                    break;
                case 14:
                    access.readCard(index, row, at);
                    break;
                default:
                    watch.setPoint(index, row[at + 1], row[at + 2]);
                    break;
            }
        }

        private static boolean isLegal(int kind, int index, int[] row, int at) {
            switch (kind) {
                case 1:
                    return Plan.areEdges(row, at);
                case 2:
                    return Plan.areFlats(row, at);
                case 3:
                    return areBelow(row, at, Plan.MOST_PEOPLE);
                case 4:
                    return Climate.isWeather(row, at);
                case 5:
                    return areBelow(row, at, Climate.MOST_SUN);
                case 6:
                    return true;
                case 7:
                    return Supply.areRatings(index, row, at);
                case 8:
                    return Books.isFlatRow(row, at);
                case 9:
                    return Books.isCashRow(row, at);
                case 10:
                    return Books.isPriceRow(row, at);
                case 11:
                    return Care.isPartRow(row, at);
                case 12:
                    return Care.isTicketRow(row, at);
                case 13:
                    return Access.isDoorRow(row, at);
                case 14:
                    return Access.isCardRow(row, at);
                default:
                    return row[at] == 1 && Watch.isPoint(row[at + 1], row[at + 2]) && Store.isBlank(row, at, 3);
            }
        }

        private static boolean areBelow(int[] row, int at, int most) {
            for (int hour = 0; hour < HOURS; hour++) {
                if (row[at + hour] > most) {
                    return false;
                }
            }
            return Store.isBlank(row, at, HOURS);
        }

        void makeTape() {
            Store.write(tape, 0, 2, Store.countKeys(store.there));
            int end = 2;
            for (int key = 0; key < KEYS; key++) {
                if (store.there[key] == 1) {
                    tape[end] = Store.kindOf(key);
                    tape[end + 1] = Store.indexOf(key);
                    System.arraycopy(store.keys, key * ROW_BYTES, tape, end + 2, ROW_BYTES);
                    end += ROW_BYTES + 2;
                }
            }
            Store.write(tape, end, 4, Store.checkSum(tape, 0, end));
            tapeLength = end + 4;
        }

        void copyTape() {
            int n = Math.min(tapeLength, REEL_BYTES - reelLength);
            System.arraycopy(tape, 0, reel, reelLength, n);
            reelLength += n;
        }

        /** The fault of the reel as an image, or 0: then its keys are laid out. */
        int judgeReel() {
            if (reelLength < 2) {
                return 1;
            }
            int count = reel[0] + 256 * reel[1];
            if (reelLength != 6 + count * (ROW_BYTES + 2)) {
                return 1;
            }
            if (Store.checkSum(reel, 0, reelLength - 4) != (int) Store.read(reel, reelLength - 4, 4)) {
                return 2;
            }
            if (!layOut(count)) {
                return 3;
            }
            return isWithinBounds() ? 0 : 4;
        }

        private boolean layOut(int count) {
            Arrays.fill(fresh, 0);
            Arrays.fill(freshThere, 0);
            int before = NONE;
            for (int i = 0; i < count; i++) {
                int at = 2 + i * (ROW_BYTES + 2);
                int key = Store.keyOf(reel[at], reel[at + 1]);
                if (key <= before) {
                    return false;
                }
                System.arraycopy(reel, at + 2, fresh, key * ROW_BYTES, ROW_BYTES);
                freshThere[key] = 1;
                before = key;
            }
            return true;
        }

        private boolean isWithinBounds() {
            for (int key = 0; key < KEYS; key++) {
                if (freshThere[key] == 1
                        && !isLegal(Store.kindOf(key), Store.indexOf(key), fresh, key * ROW_BYTES)) {
                    return false;
                }
            }
            return hasFewSpaces() && areNumbersApart() && program.findText(fresh, TEXT_KEY * ROW_BYTES)
                    && program.other.read(program.found, program.foundLength);
        }

        private boolean hasFewSpaces() {
            Plan.layFirst(plan.trial);
            for (int storey = 0; storey < STOREYS; storey++) {
                if (freshThere[storey] == 1) {
                    Plan.readEdges(storey, fresh, storey * ROW_BYTES, plan.trial);
                }
            }
            return plan.countTrial() <= MOST_SPACES;
        }

        private boolean areNumbersApart() {
            for (int a = 0; a < Care.TICKETS; a++) {
                for (int b = a + 1; b < Care.TICKETS; b++) {
                    int first = (TICKET_KEY + a) * ROW_BYTES;
                    int second = (TICKET_KEY + b) * ROW_BYTES;
                    if (fresh[first] == 1 && fresh[second] == 1
                            && Store.read(fresh, first + 8, 4) == Store.read(fresh, second + 8, 4)) {
                        return false;
                    }
                }
            }
            return true;
        }

        /** Answers whether the keys of the reel were written whole. */
        boolean takeReel() {
            if (!store.snapshot(fresh, freshThere)) {
                return false;
            }
            store.replaceKeys(fresh, freshThere);
            return true;
        }
    }
}
