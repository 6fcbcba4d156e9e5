/**
 * Hot water under a town: CELLS, TAPS, ORDERS, TAKERS and what is read out of them.
 * The words in capitals are those of the document (shared/DOC.md).
 */
public final class HotSprings {
    public static final int NONE = -1, BAD = -2, STATE = -3, FULL = -4;

    private static final int NOTHING = -5, OTHER_KIND = -6, FAULTS = -10;

    private static final int COLUMNS = 6, CELLS = 30, LAST_DAY = 400;

    private static final int HEAT = 0, WATER = 1, MORE_HEAT = 2, MORE_WATER = 3;
    private static final int[] MOST_UNDER = {1500, 9999, 99, 999};

    private static final int TAPS = 12, SPRING = 0, BORE = 1, DEEP = 2;
    private static final int GAVE = 0, HOT = 1, COMES = 2, WARM = 3, FLOWS = 4;

    private static final int WORDS = 6, RANK = 0, DEPTH = 1, APART = 2, LAPSE = 3, LEAST = 4, SHARE = 5;
    private static final int[] WITHOUT_ORDER = {100, 99, 1, 99, 0, 0};
    private static final int TAPE = 120, ORDERS = 10, CLAUSES = 8, MOST_OPEN = 5, MOST_SHARE = 2;

    private static final int TAKERS = 8, KINDS = 6, OWNERS = 10, SALES = 30, USES = 20;
    private static final int TAKER = 0, BATH = 1, HOUSE = 2, GLASS = 3, RIGHT = 4, BOUGHT = 5;
    private static final int[] KIND_ABOVE = {-1, TAKER, TAKER, TAKER, HOUSE, RIGHT};

    private static final int MIXED_TAPS = 4, MOST_TENS = 6;
    private static final int LOOKS = 60, DROPS = 4, CHANGES = 6, PUSHES = 6, CAUSES = 8;
    private static final int FORETOLD_DAYS = 60, PLACE_DAYS = 5;

    private final World world = new World();
    private final World kept = new World();
    private boolean hasImage;
    // Stands outside THE IMAGE: no row of a DAY ahead of TODAY ever changes, and undo only takes DAYS away.
    private final int[] past = new int[LAST_DAY * TAPS * FLOWS];
    private final Ground trial = new Ground();
    private final Reader reader = new Reader();
    private final Row line = new Row();
    private final Mix mixer = new Mix();
    private final Sets sets = new Sets();
    private final int[] parts = new int[TAKERS];
    private final int[] bores = new int[CAUSES];

    public HotSprings() {
    }

    // ---- under

    public int under(int cell, int what, int n) {
        if (!within(cell, CELLS) || !within(what, MOST_UNDER.length)) {
            return NONE;
        }
        if (n < 0 || n > MOST_UNDER[what]) {
            return BAD;
        }
        int was = world.ground.cells[what * CELLS + cell];
        world.ground.cells[what * CELLS + cell] = n;
        return was;
    }

    public int cell(int cell, int what) {
        if (!within(cell, CELLS) || !within(what, MOST_UNDER.length)) {
            return NONE;
        }
        return world.ground.cells[what * CELLS + cell];
    }

    public int tap(int kind, int cell, int n, int depth) {
        if (kind < SPRING || kind > DEEP || !within(cell, CELLS)) {
            return NONE;
        }
        if (kind != SPRING && (n < 1 || n > 500 || depth < 0 || depth > 99)) {
            return BAD;
        }
        if (world.ground.hasTapAt(cell) || kind != SPRING && !world.mayBe(kind, cell, depth)) {
            return STATE;
        }
        if (world.ground.taps >= TAPS) {
            return FULL;
        }
        return world.ground.addTap(kind, cell, n, world.today);
    }

    public int shut(int tap, boolean so) {
        if (!isTap(tap)) {
            return NONE;
        }
        int was = world.ground.shutTaps >> tap & 1;
        world.ground.shutTaps = so ? world.ground.shutTaps | 1 << tap : world.ground.shutTaps & ~(1 << tap);
        return was;
    }

    public int dawn(int n) {
        if (n < 1 || n > 30 || world.today + n > LAST_DAY) {
            return BAD;
        }
        for (int i = 0; i < n; i++) {
            world.ground.passDay();
            System.arraycopy(world.ground.flows, 0, past, world.today * TAPS * FLOWS, TAPS * FLOWS);
            world.today++;
        }
        return world.today;
    }

    public int flow(int tap, int day, int what) {
        if (!isTap(tap) || !wentBy(tap, day) || !within(what, FLOWS)) {
            return NONE;
        }
        return pastFlow(tap, day, what);
    }

    public int pipe(int tap, int length) {
        if (!isTap(tap)) {
            return NONE;
        }
        if (length < 0 || length > 99) {
            return BAD;
        }
        int was = world.ground.length[tap];
        world.ground.length[tap] = length;
        return was;
    }

    public int scale(int tap) {
        if (!isTap(tap)) {
            return NONE;
        }
        int was = world.ground.closing[tap];
        world.ground.closing[tap] = 0;
        return was;
    }

    // ---- orders

    public int feed(long w, int n) {
        if (n < 1 || n > 8) {
            return BAD;
        }
        if (world.tape.size + n > TAPE) {
            return FULL;
        }
        world.tape.add(w, n);
        return world.tape.size;
    }

    public int text(int day) {
        if (!isDay(day)) {
            return BAD;
        }
        if (world.book.size >= ORDERS) {
            return FULL;
        }
        int fault = reader.read(world.tape, world.book.spare(), day);
        return fault >= 0 ? FAULTS - fault : world.book.accept();
    }

    public int force(int word, int taker, int day) {
        if (!isRuled(word, taker)) {
            return NONE;
        }
        if (!isDay(day)) {
            return BAD;
        }
        return world.book.numberBy(world.book.ruling(word, world.takers, taker, day), word);
    }

    public int why(int word, int taker, int day) {
        if (!isRuled(word, taker)) {
            return NONE;
        }
        if (!isDay(day)) {
            return BAD;
        }
        return world.book.ruling(word, world.takers, taker, day);
    }

    // ---- takers

    public int taker(int kind, int tap, int n, int heat, int since) {
        if (!within(kind, KINDS) || !within(tap, TAPS)) {
            return NONE;
        }
        if (n < 1 || n > 4 || heat < 0 || heat > 1500 || since < 0 || since > world.today) {
            return BAD;
        }
        if (world.takers.size >= TAKERS) {
            return FULL;
        }
        return world.takers.add(kind, tap, n, heat, since);
    }

    public int of(int taker, int what) {
        if (!isTaker(taker) || !within(what, 3)) {
            return NONE;
        }
        if (what == 0) {
            return world.takers.needs(taker);
        }
        line.form(world.book, world.takers, world.today);
        return what == 1 ? line.rank[taker] : line.placeOf(taker);
    }

    public int as(int taker, int k) {
        if (!isTaker(taker) || !within(k, KINDS)) {
            return NONE;
        }
        return isKindOf(world.takers.kind[taker], k) ? world.takers.gallons[taker] : OTHER_KIND;
    }

    public int row(int day, int i) {
        if (!within(i, world.takers.size)) {
            return NONE;
        }
        if (!isDay(day)) {
            return BAD;
        }
        line.form(world.book, world.takers, day);
        return line.order[i];
    }

    public int sell(int taker, int by, int to, int day) {
        if (!isTaker(taker) || !within(by, OWNERS) || !within(to, OWNERS)) {
            return NONE;
        }
        if (day < 0 || day > world.today || by == to) {
            return BAD;
        }
        if (world.takers.sales >= SALES) {
            return FULL;
        }
        return world.takers.addSale(taker, by, to, day);
    }

    public int whose(int taker, int day, int e) {
        if (!isTaker(taker) || e < -1 || e > world.takers.sales) {
            return NONE;
        }
        if (!isDay(day)) {
            return BAD;
        }
        return world.takers.ownerOn(taker, day, e < 0 ? world.takers.sales : e);
    }

    public int used(int taker, int day) {
        if (!isTaker(taker)) {
            return NONE;
        }
        if (day < world.takers.since[taker] || day > world.today) {
            return BAD;
        }
        if (world.takers.hasUse(taker, day)) {
            return STATE;
        }
        if (world.takers.uses[taker] >= USES) {
            return FULL;
        }
        return world.takers.addUse(taker, day);
    }

    public int lapsed(int taker, int day) {
        if (!isTaker(taker)) {
            return NONE;
        }
        if (!isDay(day)) {
            return BAD;
        }
        int idle = day - world.takers.lastUse(taker, day);
        return idle > world.rules(LAPSE, day) ? 1 : 0;
    }

    // ---- mix, want

    public int mix(int day) {
        if (!within(day, world.today)) {
            return NONE;
        }
        line.form(world.book, world.takers, day);
        return servedOf(day);
    }

    public int want(int n, int taker) {
        if (!isTaker(taker)) {
            return NONE;
        }
        if (n < 0 || n > 999) {
            return BAD;
        }
        line.form(world.book, world.takers, world.today);
        switch (world.rules(SHARE, world.today)) {
            case 0:
                partByRank(n);
                break;
            case 1:
                partByGallons(n);
                break;
            default:
                partAlike(n);
                break;
        }
        return parts[taker];
    }

    // ---- looks, causes

    public int look(int tap, int day, int gallons, int heat) {
        if (!isTap(tap)) {
            return NONE;
        }
        if (!isDay(day) || gallons < 0 || gallons > 9999 || heat < 0 || heat > 2000) {
            return BAD;
        }
        if (world.seen.looks >= LOOKS) {
            return FULL;
        }
        return world.seen.addLook(tap, day, gallons, heat);
    }

    public int off(int tap) {
        if (!isTap(tap)) {
            return NONE;
        }
        int count = 0;
        for (int i = 0; i < world.seen.looks; i++) {
            if (world.seen.lookTap[i] == tap && isOff(i)) {
                count++;
            }
        }
        return count;
    }

    public int drop(int tap, int n) {
        if (!isTap(tap)) {
            return NONE;
        }
        if (n < 0 || n > 999) {
            return BAD;
        }
        if (!world.seen.hasDrop(tap) && world.seen.drops() >= DROPS) {
            return FULL;
        }
        return world.seen.setDrop(tap, n);
    }

    public int cause(int d, int what) {
        if (!within(what, 2)) {
            return NONE;
        }
        if (d < 0 || d > 99) {
            return BAD;
        }
        sets.begin(world.ground.listBores(bores), d);
        for (int tap = 0; tap < world.ground.taps; tap++) {
            if (world.seen.hasDrop(tap)) {
                addDrop(tap);
            }
        }
        return sets.answer(what);
    }

    public int tire(int tap, int n) {
        if (!isTap(tap)) {
            return NONE;
        }
        if (n < 1 || n > 9999) {
            return BAD;
        }
        trial.copyFrom(world.ground);
        for (int i = 0; i < FORETOLD_DAYS && world.today + i < LAST_DAY; i++) {
            trial.passDay();
            if (trial.flows[tap * FLOWS + COMES] < n) {
                return world.today + i;
            }
        }
        return NOTHING;
    }

    public int shake(int cell, int change) {
        if (!within(cell, CELLS)) {
            return NONE;
        }
        if (change < -999 || change > 999) {
            return BAD;
        }
        if (!world.seen.hasChange(cell) && world.seen.changes() >= CHANGES) {
            return FULL;
        }
        return world.seen.setChange(cell, change);
    }

    public int push(int cell, int strength) {
        if (!within(cell, CELLS)) {
            return NONE;
        }
        if (strength < -99 || strength > 99) {
            return BAD;
        }
        if (world.seen.pushes >= PUSHES) {
            return FULL;
        }
        return world.seen.addPush(cell, strength);
    }

    public int shift(int what) {
        if (!within(what, 2)) {
            return NONE;
        }
        sets.begin(world.seen.pushes, 0);
        for (int cell = 0; cell < CELLS; cell++) {
            if (world.seen.hasChange(cell)) {
                addChange(cell);
            }
        }
        return sets.answer(what);
    }

    public int place(int n) {
        if (n < 1 || n > 500) {
            return BAD;
        }
        if (world.ground.taps >= TAPS || world.today + PLACE_DAYS > LAST_DAY) {
            return STATE;
        }
        int best = NOTHING;
        int most = -1;
        for (int cell = 0; cell < CELLS; cell++) {
            if (world.ground.hasTapAt(cell) || !world.mayBe(BORE, cell, 1)) {
                continue;
            }
            int left = othersGive(cell, n);
            if (left > most) {
                most = left;
                best = cell;
            }
        }
        return best;
    }

    public int tried(int what, int day) {
        if (!within(what, 2) || what == 1 && !within(day, world.today)) {
            return NONE;
        }
        int fault = reader.read(world.tape, world.book.spare(), world.today);
        if (fault >= 0) {
            return FAULTS - fault;
        }
        world.book.accept();
        line.form(world.book, world.takers, world.today);
        world.book.forgetLast();
        if (what == 0) {
            return line.size > 0 ? line.order[0] : NONE;
        }
        return Integer.bitCount(servedOf(day));
    }

    // ---- the image

    public int image() {
        kept.copyFrom(world);
        hasImage = true;
        return world.today;
    }

    public int undo() {
        if (!hasImage) {
            return STATE;
        }
        world.copyFrom(kept);
        return world.today;
    }

    public int count(int what) {
        switch (what) {
            case 0:
                return world.ground.taps;
            case 1:
                return world.book.size;
            case 2:
                return world.takers.size;
            case 3:
                return world.takers.sales;
            case 4:
                return world.seen.looks;
            case 5:
                return world.today;
            case 6:
                return world.tape.size;
            case 7:
                return world.seen.pushes;
            case 8:
                return world.ground.allWater();
            default:
                return NONE;
        }
    }

    private static boolean within(int i, int size) {
        return i >= 0 && i < size;
    }

    private static boolean isDay(int day) {
        return day >= 0 && day <= LAST_DAY;
    }

    private static int distance(int a, int b) {
        return Math.abs(a % COLUMNS - b % COLUMNS) + Math.abs(a / COLUMNS - b / COLUMNS);
    }

    private static boolean isKindOf(int kind, int wanted) {
        int k = kind;
        for (int i = 0; i < KINDS && within(k, KINDS); i++) {
            if (k == wanted) {
                return true;
            }
            k = KIND_ABOVE[k];
        }
        return false;
    }

    private boolean isTap(int tap) {
        return within(tap, world.ground.taps);
    }

    private boolean isTaker(int taker) {
        return within(taker, world.takers.size);
    }

    private boolean isRuled(int word, int taker) {
        return within(word, WORDS) && (word != RANK || isTaker(taker));
    }

    private boolean wentBy(int tap, int day) {
        return day >= world.ground.from[tap] && day < world.today;
    }

    private int pastFlow(int tap, int day, int what) {
        return past[(day * TAPS + tap) * FLOWS + what];
    }

    private int servedOf(int day) {
        for (int tap = 0; tap < MIXED_TAPS; tap++) {
            if (isTap(tap) && wentBy(tap, day)) {
                mixer.offer(tap, pastFlow(tap, day, COMES), pastFlow(tap, day, WARM));
            } else {
                mixer.offer(tap, 0, 0);
            }
        }
        return mixer.serve(line, world.takers);
    }

    private void partByRank(int n) {
        int left = n;
        for (int i = 0; i < line.size; i++) {
            int taker = line.order[i];
            parts[taker] = Math.min(left, world.takers.gallons[taker]);
            left -= parts[taker];
        }
    }

    private void partByGallons(int n) {
        int all = 0;
        for (int i = 0; i < line.size; i++) {
            all += world.takers.gallons[i];
        }
        int left = n;
        for (int i = 0; i < line.size && all > 0; i++) {
            parts[i] = n * world.takers.gallons[i] / all;
            left -= parts[i];
        }
        // What is cut off is less than a gallon for each TAKER, so one round is enough.
        for (int i = 0; i < line.size && i < left; i++) {
            parts[line.order[i]]++;
        }
    }

    private void partAlike(int n) {
        for (int i = 0; i < line.size; i++) {
            parts[i] = 0;
        }
        int left = n;
        for (int round = 1; round <= 4; round++) {
            for (int i = 0; i < line.size && left > 0; i++) {
                int taker = line.order[i];
                if (world.takers.gallons[taker] >= round) {
                    parts[taker]++;
                    left--;
                }
            }
        }
    }

    private boolean isOff(int look) {
        int tap = world.seen.lookTap[look];
        int day = world.seen.lookDay[look];
        if (!isTap(tap) || !wentBy(tap, day)) {
            return false;
        }
        int least = world.rules(LEAST, day);
        return Math.abs(world.seen.lookGallons[look] - pastFlow(tap, day, GAVE)) > least
            || Math.abs(world.seen.lookHeat[look] - pastFlow(tap, day, HOT)) > least;
    }

    private void addDrop(int tap) {
        sets.addDue(world.seen.dropOf[tap]);
        for (int i = 0; i < sets.causes; i++) {
            int bore = bores[i];
            int far = distance(world.ground.cellOf[tap], world.ground.cellOf[bore]) + 1;
            sets.addShare(i, bore == tap ? 0 : world.ground.told[bore] / far);
        }
    }

    private void addChange(int cell) {
        sets.addDue(world.seen.changeOf[cell]);
        for (int i = 0; i < sets.causes; i++) {
            int far = distance(cell, world.seen.pushCell[i]);
            int strength = world.seen.pushStrength[i];
            sets.addShare(i, far <= 1 ? strength : far == 2 ? strength / 2 : 0);
        }
    }

    private int othersGive(int cell, int n) {
        trial.copyFrom(world.ground);
        int added = trial.addTap(BORE, cell, n, world.today);
        int sum = 0;
        for (int day = 0; day < PLACE_DAYS; day++) {
            trial.passDay();
            for (int tap = 0; tap < added; tap++) {
                sum += trial.flows[tap * FLOWS + GAVE];
            }
        }
        return sum;
    }

    /** All that there is and that THE IMAGE keeps. */
    private static final class World {
        int today;
        final Ground ground = new Ground();
        final Tape tape = new Tape();
        final OrderBook book = new OrderBook();
        final Takers takers = new Takers();
        final Seen seen = new Seen();

        void copyFrom(World other) {
            today = other.today;
            ground.copyFrom(other.ground);
            tape.copyFrom(other.tape);
            book.copyFrom(other.book);
            takers.copyFrom(other.takers);
            seen.copyFrom(other.seen);
        }

        /** What a word that asks for no TAKER rules. */
        int rules(int word, int day) {
            return book.numberBy(book.ruling(word, takers, 0, day), word);
        }

        boolean mayBe(int kind, int cell, int depth) {
            int deep = rules(DEPTH, today);
            if (depth > (kind == DEEP ? 2 * deep : deep)) {
                return false;
            }
            int apart = rules(APART, today);
            for (int tap = 0; tap < ground.taps; tap++) {
                if (distance(ground.cellOf[tap], cell) < apart) {
                    return false;
                }
            }
            return true;
        }
    }

    /** CELLS and TAPS as they are, and how a DAY goes by. */
    private static final class Ground {
        // HEAT of all CELLS, then WATER of all, then what HEAT and what WATER they get.
        final int[] cells = new int[MOST_UNDER.length * CELLS];
        int taps;
        int shutTaps;
        final int[] kind = new int[TAPS];
        final int[] cellOf = new int[TAPS];
        final int[] told = new int[TAPS];
        final int[] from = new int[TAPS];
        final int[] length = new int[TAPS];
        final int[] closing = new int[TAPS];
        // GAVE, HOT, COMES, WARM of each TAP on the DAY that went by last.
        final int[] flows = new int[TAPS * FLOWS];
        final int[] moves = new int[CELLS];

        void copyFrom(Ground other) {
            System.arraycopy(other.cells, 0, cells, 0, cells.length);
            taps = other.taps;
            shutTaps = other.shutTaps;
            System.arraycopy(other.kind, 0, kind, 0, TAPS);
            System.arraycopy(other.cellOf, 0, cellOf, 0, TAPS);
            System.arraycopy(other.told, 0, told, 0, TAPS);
            System.arraycopy(other.from, 0, from, 0, TAPS);
            System.arraycopy(other.length, 0, length, 0, TAPS);
            System.arraycopy(other.closing, 0, closing, 0, TAPS);
        }

        boolean hasTapAt(int cell) {
            for (int tap = 0; tap < taps; tap++) {
                if (cellOf[tap] == cell) {
                    return true;
                }
            }
            return false;
        }

        int addTap(int kindTold, int cell, int n, int day) {
            if (taps >= TAPS) {
                return FULL;
            }
            kind[taps] = kindTold;
            cellOf[taps] = cell;
            told[taps] = n;
            from[taps] = day;
            length[taps] = 0;
            closing[taps] = 0;
            return taps++;
        }

        int allWater() {
            int sum = 0;
            for (int c = 0; c < CELLS; c++) {
                sum += cells[WATER * CELLS + c];
            }
            return sum;
        }

        /** Lists the TAPS that are BORES (DEEP ones too) as far as there is room; answers how many. */
        int listBores(int[] list) {
            int count = 0;
            for (int tap = 0; tap < taps && count < list.length; tap++) {
                if (kind[tap] != SPRING) {
                    list[count] = tap;
                    count++;
                }
            }
            return count;
        }

        void passDay() {
            for (int c = 0; c < CELLS; c++) {
                get(HEAT, MORE_HEAT, c);
                get(WATER, MORE_WATER, c);
            }
            for (int tap = 0; tap < taps; tap++) {
                give(tap);
            }
            even(HEAT, 8);
            even(WATER, 4);
        }

        private void get(int what, int more, int c) {
            int sum = cells[what * CELLS + c] + cells[more * CELLS + c];
            cells[what * CELLS + c] = Math.min(MOST_UNDER[what], sum);
        }

        private void give(int tap) {
            int c = cellOf[tap];
            int gallons = isShut(tap) ? 0 : Math.min(drawn(tap), cells[WATER * CELLS + c]);
            int hot = cells[HEAT * CELLS + c] + (kind[tap] == DEEP ? 50 : 0);
            cells[WATER * CELLS + c] -= gallons;
            int cold = 10 * length[tap] / (gallons + 10);
            flows[tap * FLOWS + GAVE] = gallons;
            flows[tap * FLOWS + HOT] = hot;
            flows[tap * FLOWS + COMES] = Math.max(0, gallons - closing[tap] / 10);
            flows[tap * FLOWS + WARM] = Math.max(0, hot - cold);
            if (gallons > 0 && hot >= 500) {
                closing[tap] += hot >= 800 ? 2 : 1;
            }
        }

        private boolean isShut(int tap) {
            return (shutTaps >> tap & 1) != 0;
        }

        private int drawn(int tap) {
            switch (kind[tap]) {
                case SPRING:
                    return cells[WATER * CELLS + cellOf[tap]] / 10;
                case BORE:
                    return told[tap];
                default:
                    return told[tap] + told[tap] / 2;
            }
        }

        /** All moves are reckoned ahead of the first, for they go all at once. */
        private void even(int what, int part) {
            int first = what * CELLS;
            for (int c = 0; c < CELLS; c++) {
                moves[c] = 0;
            }
            for (int c = 0; c < CELLS; c++) {
                if (c % COLUMNS < COLUMNS - 1) {
                    move(c, c + 1, (cells[first + c] - cells[first + c + 1]) / part);
                }
                if (c + COLUMNS < CELLS) {
                    move(c, c + COLUMNS, (cells[first + c] - cells[first + c + COLUMNS]) / part);
                }
            }
            for (int c = 0; c < CELLS; c++) {
                cells[first + c] += moves[c];
            }
        }

        private void move(int a, int b, int n) {
            moves[a] -= n;
            moves[b] += n;
        }
    }

    /** THE TAPE: bytes that wait to be read. */
    private static final class Tape {
        int size;
        final int[] bytes = new int[TAPE];

        void copyFrom(Tape other) {
            size = other.size;
            System.arraycopy(other.bytes, 0, bytes, 0, TAPE);
        }

        void add(long w, int n) {
            for (int i = n - 1; i >= 0 && size < TAPE; i--) {
                bytes[size] = (int) (w >>> 8 * i) & 255;
                size++;
            }
        }
    }

    /** CLAUSES as read; each E stands as steps, operands first, so that it is told without going down into it. */
    private static final class Order {
        static final int NUMBERS = 1000;
        static final int KIND_IS = 0, TAP_IS = 1, GALLONS = 2, SINCE = 4, NEEDED = 6, ABOVE = 1;
        static final int NOT = 8, AND = 9, OR = 10;

        int from;
        int clauses;
        final int[] word = new int[CLAUSES];
        final int[] number = new int[CLAUSES];
        final int[] first = new int[CLAUSES];
        final int[] end = new int[CLAUSES];
        int size;
        final int[] steps = new int[TAPE];

        void copyFrom(Order other) {
            from = other.from;
            clauses = other.clauses;
            System.arraycopy(other.word, 0, word, 0, CLAUSES);
            System.arraycopy(other.number, 0, number, 0, CLAUSES);
            System.arraycopy(other.first, 0, first, 0, CLAUSES);
            System.arraycopy(other.end, 0, end, 0, CLAUSES);
            size = other.size;
            System.arraycopy(other.steps, 0, steps, 0, TAPE);
        }

        void clear(int day) {
            from = day;
            clauses = 0;
            size = 0;
        }

        void addStep(int step, int n) {
            if (size < TAPE) {
                steps[size] = step * NUMBERS + n;
                size++;
            }
        }

        void addClause(int w, int n, int firstStep) {
            if (clauses < CLAUSES) {
                word[clauses] = w;
                number[clauses] = n;
                first[clauses] = firstStep;
                end[clauses] = size;
                clauses++;
            }
        }

        /** The place of the last CLAUSE of a word (of rank: that holds for the TAKER), or -1. */
        int lastClause(int w, Takers takers, int taker) {
            for (int i = clauses - 1; i >= 0; i--) {
                if (word[i] == w && (w != RANK || holds(i, takers, taker))) {
                    return i;
                }
            }
            return -1;
        }

        private boolean holds(int clause, Takers takers, int taker) {
            // The truths that wait for their operator are the lowest bits, the newest lowest of all.
            int truths = 0;
            for (int i = first[clause]; i < end[clause] && i < TAPE; i++) {
                int step = steps[i] / NUMBERS;
                if (step == NOT) {
                    truths ^= 1;
                } else if (step == AND) {
                    truths = truths >>> 1 & (truths | ~1);
                } else if (step == OR) {
                    truths = truths >>> 1 | truths & 1;
                } else {
                    truths = truths << 1 | (isSo(step, steps[i] % NUMBERS, takers, taker) ? 1 : 0);
                }
            }
            return (truths & 1) != 0;
        }

        private static boolean isSo(int step, int n, Takers takers, int taker) {
            switch (step) {
                case KIND_IS:
                    return takers.kind[taker] == n;
                case TAP_IS:
                    return takers.tap[taker] == n;
                case GALLONS:
                    return takers.gallons[taker] < n;
                case GALLONS + ABOVE:
                    return takers.gallons[taker] > n;
                case SINCE:
                    return takers.since[taker] < n;
                case SINCE + ABOVE:
                    return takers.since[taker] > n;
                case NEEDED:
                    return takers.heat[taker] < n;
                default:
                    return takers.heat[taker] > n;
            }
        }
    }

    /** ORDERS by numbers, with room for one more that is only tried. */
    private static final class OrderBook {
        // More than there are numbers of ORDERS, so that a key tells both DAY and number.
        static final int KEYS = 100;

        int size;
        final Order[] orders = new Order[ORDERS + 1];

        OrderBook() {
            for (int i = 0; i < orders.length; i++) {
                orders[i] = new Order();
            }
        }

        void copyFrom(OrderBook other) {
            size = other.size;
            for (int i = 0; i < size && i < orders.length; i++) {
                orders[i].copyFrom(other.orders[i]);
            }
        }

        Order spare() {
            return orders[Math.min(size, ORDERS)];
        }

        int accept() {
            int number = size;
            size = Math.min(size + 1, orders.length);
            return number;
        }

        void forgetLast() {
            size = Math.max(0, size - 1);
        }

        /** The number that a word has by what rules of it. */
        int numberBy(int ruling, int word) {
            if (ruling < 0) {
                return WITHOUT_ORDER[word];
            }
            return orders[ruling / KEYS].number[ruling % KEYS];
        }

        /** 100 times the ORDER, and the place of its CLAUSE that rules; or NOTHING. */
        int ruling(int word, Takers takers, int taker, int day) {
            int key = (LAST_DAY + 1) * KEYS;
            for (int i = 0; i < size; i++) {
                key = keyBelow(key, day);
                if (key < 0) {
                    return NOTHING;
                }
                int clause = orders[key % KEYS].lastClause(word, takers, taker);
                if (clause >= 0) {
                    return key % KEYS * KEYS + clause;
                }
            }
            return NOTHING;
        }

        /** The key (DAY and number) of the ORDER in force that comes next below a key, or -1. */
        private int keyBelow(int limit, int day) {
            int best = -1;
            for (int i = 0; i < size; i++) {
                int key = orders[i].from * KEYS + i;
                if (orders[i].from <= day && key < limit && key > best) {
                    best = key;
                }
            }
            return best;
        }
    }

    /** Reads THE TAPE as an ORDER, up to the first byte with which none can go on. */
    private static final class Reader {
        private static final int END = -1;

        private Tape tape;
        private Order order;
        private int place;
        private boolean failed;

        /** THE TAPE becomes an ORDER from a DAY on, and is empty then; answers the FAULT, or -1. */
        int read(Tape from, Order into, int day) {
            tape = from;
            order = into;
            place = 0;
            failed = false;
            order.clear(day);
            for (int i = 0; i < CLAUSES; i++) {
                int word = readWord();
                need(' ');
                int n = word == SHARE ? readShare() : readNumber();
                int first = order.size;
                if (word == RANK) {
                    need(' ');
                    readEither(0);
                }
                if (failed) {
                    break;
                }
                order.addClause(word, n, first);
                if (i == CLAUSES - 1 || !take(';')) {
                    break;
                }
            }
            int fault = failed || place < tape.size ? place : -1;
            tape.size = 0;
            return fault;
        }

        private int readWord() {
            int most = 0;
            for (int word = 0; word < WORDS; word++) {
                String letters = lettersOf(word);
                int same = countSame(letters);
                if (same == letters.length()) {
                    place += same;
                    return word;
                }
                most = Math.max(most, same);
            }
            place += most;
            failed = true;
            return -1;
        }

        private static String lettersOf(int word) {
            switch (word) {
                case RANK:
                    return "rank";
                case DEPTH:
                    return "deep";
                case APART:
                    return "apart";
                case LAPSE:
                    return "lapse";
                case LEAST:
                    return "least";
                default:
                    return "share";
            }
        }

        private int countSame(String letters) {
            for (int i = 0; i < letters.length(); i++) {
                if (place + i >= tape.size || tape.bytes[place + i] != letters.charAt(i)) {
                    return i;
                }
            }
            return letters.length();
        }

        private int readShare() {
            int sign = now();
            if (sign < '0' || sign > '0' + MOST_SHARE) {
                failed = true;
                return 0;
            }
            place++;
            return sign - '0';
        }

        private int readNumber() {
            int n = 0;
            for (int digits = 0; digits < 3; digits++) {
                int sign = now();
                if (sign < '0' || sign > '9') {
                    failed = failed || digits == 0;
                    return n;
                }
                place++;
                n = n * 10 + sign - '0';
                if (n == 0) {
                    return 0;
                }
            }
            return n;
        }

        private void readEither(int open) {
            readPart(open);
            boolean orWaits = false;
            for (int i = 0; i < TAPE; i++) {
                if (take('&')) {
                    readPart(open);
                    order.addStep(Order.AND, 0);
                } else if (take('|')) {
                    if (orWaits) {
                        order.addStep(Order.OR, 0);
                    }
                    orWaits = true;
                    readPart(open);
                } else {
                    break;
                }
            }
            if (orWaits) {
                order.addStep(Order.OR, 0);
            }
        }

        private void readPart(int open) {
            int sign = now();
            if (sign != '!' && sign != '(') {
                readTest();
                return;
            }
            if (open >= MOST_OPEN) {
                failed = true;
                return;
            }
            place++;
            if (sign == '!') {
                readPart(open + 1);
                order.addStep(Order.NOT, 0);
            } else {
                readEither(open + 1);
                need(')');
            }
        }

        private void readTest() {
            int step = 0;
            switch (now()) {
                case 'k':
                    step = Order.KIND_IS;
                    break;
                case 't':
                    step = Order.TAP_IS;
                    break;
                case 'n':
                    step = Order.GALLONS;
                    break;
                case 's':
                    step = Order.SINCE;
                    break;
                case 'h':
                    step = Order.NEEDED;
                    break;
                default:
                    failed = true;
                    return;
            }
            place++;
            if (step < Order.GALLONS) {
                need('=');
            } else if (take('>')) {
                step += Order.ABOVE;
            } else {
                need('<');
            }
            order.addStep(step, readNumber());
        }

        /** The byte that is to be read; none behind a failure, so that the place stays there. */
        private int now() {
            return failed || place >= tape.size ? END : tape.bytes[place];
        }

        private boolean take(int sign) {
            if (failed || place >= tape.size || tape.bytes[place] != sign) {
                return false;
            }
            place++;
            return true;
        }

        private void need(int sign) {
            if (!take(sign)) {
                failed = true;
            }
        }
    }

    /** TAKERS, their SALES and the DAYS on which they were USED. */
    private static final class Takers {
        int size;
        final int[] kind = new int[TAKERS];
        final int[] tap = new int[TAKERS];
        final int[] gallons = new int[TAKERS];
        final int[] heat = new int[TAKERS];
        final int[] since = new int[TAKERS];
        final int[] uses = new int[TAKERS];
        final int[] useDay = new int[TAKERS * USES];
        int sales;
        final int[] saleTaker = new int[SALES];
        final int[] saleBy = new int[SALES];
        final int[] saleTo = new int[SALES];
        final int[] saleDay = new int[SALES];

        void copyFrom(Takers other) {
            size = other.size;
            System.arraycopy(other.kind, 0, kind, 0, TAKERS);
            System.arraycopy(other.tap, 0, tap, 0, TAKERS);
            System.arraycopy(other.gallons, 0, gallons, 0, TAKERS);
            System.arraycopy(other.heat, 0, heat, 0, TAKERS);
            System.arraycopy(other.since, 0, since, 0, TAKERS);
            System.arraycopy(other.uses, 0, uses, 0, TAKERS);
            System.arraycopy(other.useDay, 0, useDay, 0, useDay.length);
            sales = other.sales;
            System.arraycopy(other.saleTaker, 0, saleTaker, 0, SALES);
            System.arraycopy(other.saleBy, 0, saleBy, 0, SALES);
            System.arraycopy(other.saleTo, 0, saleTo, 0, SALES);
            System.arraycopy(other.saleDay, 0, saleDay, 0, SALES);
        }

        int add(int kindTold, int tapTold, int n, int heatTold, int day) {
            if (size >= TAKERS) {
                return FULL;
            }
            kind[size] = kindTold;
            tap[size] = tapTold;
            gallons[size] = n;
            heat[size] = heatTold;
            since[size] = day;
            uses[size] = 0;
            return size++;
        }

        int needs(int taker) {
            int told = heat[taker];
            switch (kind[taker]) {
                case BATH:
                    return told + 10;
                case HOUSE:
                case RIGHT:
                    return Math.max(0, told - 20);
                case GLASS:
                    return told / 2;
                case BOUGHT:
                    // A RIGHT's is never below 0, and this is 5 more than that.
                    return Math.max(0, told - 20) + 5;
                default:
                    return told;
            }
        }

        int addSale(int taker, int by, int to, int day) {
            if (sales >= SALES) {
                return FULL;
            }
            saleTaker[sales] = taker;
            saleBy[sales] = by;
            saleTo[sales] = to;
            saleDay[sales] = day;
            sales++;
            return sales;
        }

        int ownerOn(int taker, int day, int first) {
            int owner = 0;
            int key = -1;
            for (int i = 0; i < first; i++) {
                key = saleKeyAbove(key, taker, day, first);
                if (key < 0) {
                    return owner;
                }
                if (saleBy[key % SALES] == owner) {
                    owner = saleTo[key % SALES];
                }
            }
            return owner;
        }

        /** The key (DAY and place) of the SALE of a TAKER that comes next above a key, or -1. */
        private int saleKeyAbove(int limit, int taker, int day, int first) {
            int best = -1;
            for (int i = 0; i < first && i < SALES; i++) {
                int key = saleDay[i] * SALES + i;
                if (saleTaker[i] == taker && saleDay[i] <= day && key > limit && (best < 0 || key < best)) {
                    best = key;
                }
            }
            return best;
        }

        boolean hasUse(int taker, int day) {
            for (int i = 0; i < uses[taker]; i++) {
                if (useDay[taker * USES + i] == day) {
                    return true;
                }
            }
            return false;
        }

        int addUse(int taker, int day) {
            if (uses[taker] >= USES) {
                return FULL;
            }
            useDay[taker * USES + uses[taker]] = day;
            uses[taker]++;
            return uses[taker];
        }

        /** The last DAY of USE up to a DAY; since counts as one. */
        int lastUse(int taker, int day) {
            int last = since[taker];
            for (int i = 0; i < uses[taker]; i++) {
                int use = useDay[taker * USES + i];
                if (use <= day && use > last) {
                    last = use;
                }
            }
            return last;
        }
    }

    /** THE ROW of a DAY, with the RANKS by which it stands. */
    private static final class Row {
        int size;
        final int[] rank = new int[TAKERS];
        final int[] order = new int[TAKERS];

        void form(OrderBook book, Takers takers, int day) {
            size = takers.size;
            for (int taker = 0; taker < size; taker++) {
                int kind = takers.kind[taker];
                int less = kind == RIGHT ? 1 : kind == BOUGHT ? 2 : 0;
                rank[taker] = book.numberBy(book.ruling(RANK, takers, taker, day), RANK) - less;
                insert(takers, taker);
            }
        }

        /** TAKERS come by numbers, so one that is like those in THE ROW stays behind them. */
        private void insert(Takers takers, int taker) {
            int i = taker;
            while (i > 0 && isAhead(takers, taker, order[i - 1])) {
                order[i] = order[i - 1];
                i--;
            }
            order[i] = taker;
        }

        private boolean isAhead(Takers takers, int a, int b) {
            return rank[a] != rank[b] ? rank[a] < rank[b] : takers.since[a] < takers.since[b];
        }

        int placeOf(int taker) {
            for (int i = 0; i < size; i++) {
                if (order[i] == taker) {
                    return i;
                }
            }
            return NONE;
        }
    }

    /** Who is SERVED BY RANK: all that can be left of the TAPS' tens is kept, as numbers of base 7. */
    private static final class Mix {
        static final int BASE = MOST_TENS + 1;
        static final int ALL = BASE * BASE * BASE * BASE;

        private final int[] tens = new int[MIXED_TAPS];
        private final int[] warm = new int[MIXED_TAPS];
        private int[] rests = new int[ALL];
        private int[] nextRests = new int[ALL];
        private int count;
        private int nextCount;
        // Tells by the round's number which rests are found already, so that nothing has to be wiped.
        private final int[] found = new int[ALL];
        private int round;

        void offer(int tap, int comes, int heat) {
            tens[tap] = Math.min(MOST_TENS, comes / 10);
            warm[tap] = heat;
        }

        int serve(Row line, Takers takers) {
            rests[0] = ((tens[3] * BASE + tens[2]) * BASE + tens[1]) * BASE + tens[0];
            count = 1;
            int served = 0;
            for (int i = 0; i < line.size; i++) {
                int taker = line.order[i];
                if (canAdd(takers.gallons[taker], takers.needs(taker))) {
                    served |= 1 << taker;
                }
            }
            return served;
        }

        private boolean canAdd(int n, int needs) {
            round++;
            nextCount = 0;
            for (int i = 0; i < count; i++) {
                takeFrom(rests[i], n, n * needs);
            }
            if (nextCount == 0) {
                return false;
            }
            int[] old = rests;
            rests = nextRests;
            nextRests = old;
            count = nextCount;
            return true;
        }

        private void takeFrom(int rest, int n, int heat) {
            int left0 = rest % BASE;
            int left1 = rest / BASE % BASE;
            int left2 = rest / (BASE * BASE) % BASE;
            int left3 = rest / (BASE * BASE * BASE);
            for (int a = 0; a <= n && a <= left0; a++) {
                for (int b = 0; a + b <= n && b <= left1; b++) {
                    for (int c = 0; a + b + c <= n && c <= left2; c++) {
                        int d = n - a - b - c;
                        int sum = a * warm[0] + b * warm[1] + c * warm[2] + d * warm[3];
                        if (d <= left3 && sum >= heat) {
                            keep(rest - (((d * BASE + c) * BASE + b) * BASE + a));
                        }
                    }
                }
            }
        }

        private void keep(int rest) {
            if (within(rest, ALL) && found[rest] != round && nextCount < ALL) {
                found[rest] = round;
                nextRests[nextCount] = rest;
                nextCount++;
            }
        }
    }

    /** What was told of looks at TAPS, drops, changes and pushes. */
    private static final class Seen {
        int looks;
        final int[] lookTap = new int[LOOKS];
        final int[] lookDay = new int[LOOKS];
        final int[] lookGallons = new int[LOOKS];
        final int[] lookHeat = new int[LOOKS];
        private int dropTaps;
        final int[] dropOf = new int[TAPS];
        private int changeCells;
        final int[] changeOf = new int[CELLS];
        int pushes;
        final int[] pushCell = new int[PUSHES];
        final int[] pushStrength = new int[PUSHES];

        void copyFrom(Seen other) {
            looks = other.looks;
            System.arraycopy(other.lookTap, 0, lookTap, 0, LOOKS);
            System.arraycopy(other.lookDay, 0, lookDay, 0, LOOKS);
            System.arraycopy(other.lookGallons, 0, lookGallons, 0, LOOKS);
            System.arraycopy(other.lookHeat, 0, lookHeat, 0, LOOKS);
            dropTaps = other.dropTaps;
            System.arraycopy(other.dropOf, 0, dropOf, 0, TAPS);
            changeCells = other.changeCells;
            System.arraycopy(other.changeOf, 0, changeOf, 0, CELLS);
            pushes = other.pushes;
            System.arraycopy(other.pushCell, 0, pushCell, 0, PUSHES);
            System.arraycopy(other.pushStrength, 0, pushStrength, 0, PUSHES);
        }

        int addLook(int tap, int day, int gallons, int heat) {
            if (looks >= LOOKS) {
                return FULL;
            }
            lookTap[looks] = tap;
            lookDay[looks] = day;
            lookGallons[looks] = gallons;
            lookHeat[looks] = heat;
            looks++;
            return looks;
        }

        boolean hasDrop(int tap) {
            return (dropTaps >> tap & 1) != 0;
        }

        int drops() {
            return Integer.bitCount(dropTaps);
        }

        int setDrop(int tap, int n) {
            dropTaps |= 1 << tap;
            dropOf[tap] = n;
            return drops();
        }

        boolean hasChange(int cell) {
            return (changeCells >> cell & 1) != 0;
        }

        int changes() {
            return Integer.bitCount(changeCells);
        }

        int setChange(int cell, int change) {
            changeCells |= 1 << cell;
            changeOf[cell] = change;
            return changes();
        }

        int addPush(int cell, int strength) {
            if (pushes >= PUSHES) {
                return FULL;
            }
            pushCell[pushes] = cell;
            pushStrength[pushes] = strength;
            pushes++;
            return pushes;
        }
    }

    /** Which sets of causes explain all that is due: the FEWEST, and how many RIVALS it has. */
    private static final class Sets {
        // Changes of CELLS are told of more places than drops of TAPS.
        static final int MOST_DUE = CHANGES;

        int causes;
        private int slack;
        private int dues;
        private final int[] due = new int[MOST_DUE];
        private final int[] share = new int[MOST_DUE * CAUSES];

        void begin(int causesTold, int slackTold) {
            causes = Math.min(causesTold, CAUSES);
            slack = slackTold;
            dues = 0;
        }

        void addDue(int n) {
            if (dues < MOST_DUE) {
                due[dues] = n;
                dues++;
            }
        }

        /** What a cause does to the due that was added last. */
        void addShare(int cause, int n) {
            if (dues > 0 && within(cause, CAUSES)) {
                share[(dues - 1) * CAUSES + cause] = n;
            }
        }

        /** what 0: FEWEST, 1: RIVALS. */
        int answer(int what) {
            int fewest = NOTHING;
            int rivals = NOTHING;
            int size = CAUSES + 1;
            for (int bits = 0; bits < 1 << causes; bits++) {
                int bitsSize = Integer.bitCount(bits);
                if (bitsSize > size || !explains(bits)) {
                    continue;
                }
                if (bitsSize < size) {
                    size = bitsSize;
                    fewest = bits;
                    rivals = 0;
                }
                rivals++;
            }
            return what == 0 ? fewest : rivals;
        }

        private boolean explains(int bits) {
            for (int i = 0; i < dues; i++) {
                int sum = 0;
                for (int cause = 0; cause < causes; cause++) {
                    if ((bits >> cause & 1) != 0) {
                        sum += share[i * CAUSES + cause];
                    }
                }
                if (Math.abs(sum - due[i]) > slack) {
                    return false;
                }
            }
            return true;
        }
    }
}
