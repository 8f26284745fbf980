/**
 * A log of records on a tiny flash chip, with power cuts that tear pages and blocks,
 * blocks that wear out, and sweeps. ../shared/DOC.md says what each call answers.
 */
public final class TornPageLog {
    public static final int NONE = -9;
    public static final int CUT = -2;

    private static final int KEYS = 16;
    private static final int GREATEST_VALUE = 999;
    private static final int GREATEST_CUT = 99;
    private static final int GREATEST_POLICY = 2;
    private static final int SLOTS = 2;
    private static final int MOST_COMMANDS = 4;
    private static final int MOST_ROUNDS = 99;
    private static final int MOST_PUTS = 300;

    /** A removal is held as a record with this value, so that reading it tells "no value". */
    private static final int REMOVAL = NONE;

    // The commands of a story have the numbers that they have in scripts: both run in perform().
    private static final int PUT = 1;
    private static final int REMOVE = 2;
    private static final int SWEEP = 3;
    private static final int SET_CUT = 4;
    private static final int SWITCH_ON = 5;
    private static final int VALUE_IS = 6;
    private static final int WEAR_AT_MOST = 7;
    private static final int CLEAN_AT_LEAST = 8;
    private static final int SET_POLICY = 9;

    private final Story story = new Story();
    private final History history = new History();
    private final Slots slots = new Slots();
    private final Log log = new Log();

    /** What scripts, simulations and questions run on. */
    private final Log copy = new Log();

    /** Where it is tried whether there is room; apart from copy, since scripts ask it too. */
    private final Log trial = new Log();

    public TornPageLog() {
    }

    // ---- text

    public int append(int c) throws IllegalArgumentException, IllegalStateException {
        if (c < 0 || c > 255) {
            throw new IllegalArgumentException("no character code");
        }
        if (story.isFull()) {
            throw new IllegalStateException("the text is full");
        }
        return story.add(c);
    }

    public int clearText() {
        return story.empty();
    }

    public int errorPosition() {
        return story.firstError();
    }

    public int load() throws IllegalStateException {
        if (story.firstError() != NONE) {
            throw new IllegalStateException("the text is not a story");
        }
        story.readChip();
        log.renew(story.blocks, story.life);
        history.forget();
        slots.empty();
        int leftOut = 0;
        for (int i = 0; i < Story.MOST_TEXT && story.hasMore(); i++) {
            story.readCommand();
            if (!perform(log, story.command, story.key, story.number)) {
                leftOut++;
            }
        }
        return leftOut;
    }

    // ---- what there is

    public int about(int what) throws IllegalArgumentException {
        if (what < 0 || what > 13) {
            throw new IllegalArgumentException("no such number of the chip");
        }
        return what < 6 || what > 10 ? log.tell(what) : log.tally.tell(what);
    }

    public int page(int address, int what) throws IndexOutOfBoundsException, IllegalArgumentException {
        if (!log.flash.hasPage(address)) {
            throw new IndexOutOfBoundsException("no such page");
        }
        if (what < 0 || what > 4) {
            throw new IllegalArgumentException("no such number of a page");
        }
        return log.flash.tellPage(address, what);
    }

    public int block(int b, int what) throws IndexOutOfBoundsException, IllegalArgumentException {
        if (!log.flash.hasBlock(b)) {
            throw new IndexOutOfBoundsException("no such block");
        }
        if (what < 0 || what > 5) {
            throw new IllegalArgumentException("no such number of a block");
        }
        return log.tellBlock(b, what);
    }

    public int get(int key) throws IllegalArgumentException, IllegalStateException {
        if (!isKey(key)) {
            throw new IllegalArgumentException("no such key");
        }
        if (!log.on) {
            throw new IllegalStateException("the power is off");
        }
        return log.flash.valueOf(key);
    }

    public int keyAt(int i) throws IllegalArgumentException {
        if (i < 0) {
            throw new IllegalArgumentException("a negative number of a key");
        }
        int before = 0;
        for (int key = 0; key < KEYS; key++) {
            if (log.flash.valueOf(key) != NONE) {
                if (before == i) {
                    return key;
                }
                before++;
            }
        }
        return NONE;
    }

    public int newest(int key) throws IllegalArgumentException {
        if (!isKey(key)) {
            throw new IllegalArgumentException("no such key");
        }
        return log.flash.newestOf(key);
    }

    public int lastCut(int what) throws IllegalArgumentException {
        if (what < 0 || what > 2) {
            throw new IllegalArgumentException("no such number of a power cut");
        }
        return log.tally.tellCut(what);
    }

    // ---- actions

    public int put(int key, int value) throws IllegalArgumentException, IllegalStateException {
        if (!isKey(key) || !isValue(value)) {
            throw new IllegalArgumentException("no such key or value");
        }
        if (costOfRecord(log) == 0) {
            throw new IllegalStateException("no room");
        }
        history.remember(log);
        return log.store(key, value);
    }

    public int remove(int key) throws IllegalArgumentException, IllegalStateException {
        if (!isKey(key)) {
            throw new IllegalArgumentException("no such key");
        }
        if (log.flash.valueOf(key) == NONE || costOfRecord(log) == 0) {
            throw new IllegalStateException("no value or no room");
        }
        history.remember(log);
        return log.store(key, REMOVAL);
    }

    public int sweep() throws IllegalStateException {
        int chosen = log.chooseVictim();
        if (chosen == NONE) {
            throw new IllegalStateException("nothing can be swept");
        }
        history.remember(log);
        return log.sweepBlock(chosen);
    }

    public int cut(int n) throws IllegalArgumentException, IllegalStateException {
        if (n < 0 || n > GREATEST_CUT) {
            throw new IllegalArgumentException("no such operation");
        }
        if (!log.on) {
            throw new IllegalStateException("the power is off");
        }
        history.remember(log);
        int before = log.cutIn;
        log.cutIn = n;
        return before;
    }

    public int start() throws IllegalStateException {
        if (log.on) {
            throw new IllegalStateException("the power is on");
        }
        history.remember(log);
        log.switchOn();
        return log.flash.countKeys();
    }

    public int setPolicy(int policy) throws IllegalArgumentException {
        if (policy < 0 || policy > GREATEST_POLICY) {
            throw new IllegalArgumentException("no such policy");
        }
        history.remember(log);
        int before = log.policy;
        log.policy = policy;
        return before;
    }

    public int undo() throws IllegalStateException {
        if (history.count == 0) {
            throw new IllegalStateException("no state is remembered");
        }
        history.takeBack(log);
        return history.count;
    }

    // ---- what would be

    public int victim() {
        return log.chooseVictim();
    }

    public int whyNoRoom() {
        if (!log.on) {
            return 1;
        }
        if (costOfRecord(log) > 0) {
            return 0;
        }
        return log.hasSomethingToSweep() ? 3 : 2;
    }

    public int operations() throws IllegalStateException {
        int cost = costOfRecord(log);
        if (cost == 0) {
            throw new IllegalStateException("no room");
        }
        return cost;
    }

    public int afterCut(int key, int value, int n) throws IllegalArgumentException, IllegalStateException {
        if (!isKey(key) || !isValue(value) || n < 1 || n > GREATEST_CUT) {
            throw new IllegalArgumentException("no such key, value or operation");
        }
        if (costOfRecord(log) == 0) {
            throw new IllegalStateException("no room");
        }
        copy.copyFrom(log);
        copy.cutIn = n;
        copy.store(key, value);
        if (!copy.on) {
            copy.switchOn();
        }
        return copy.flash.valueOf(key);
    }

    public int lasts(int key) throws IllegalArgumentException {
        if (!isKey(key)) {
            throw new IllegalArgumentException("no such key");
        }
        if (!log.on) {
            return 0;
        }
        copy.copyFrom(log);
        copy.cutIn = 0;
        int puts = 0;
        while (puts < MOST_PUTS && copy.store(key, 0) != NONE) {
            puts++;
        }
        return puts;
    }

    public int oldest() {
        int found = NONE;
        int least = 0;
        for (int key = 0; key < KEYS; key++) {
            if (log.flash.valueOf(key) != NONE) {
                int mark = log.flash.tellPage(log.flash.newestOf(key), 3);
                if (found == NONE || mark < least) {
                    found = key;
                    least = mark;
                }
            }
        }
        return found;
    }

    // ---- scripts, simulations

    public int runScript(int n, long script) throws IllegalArgumentException {
        if (n < 1 || n > MOST_COMMANDS) {
            throw new IllegalArgumentException("no such number of commands");
        }
        long unit = 1;
        for (int i = 0; i < n; i++) {
            unit *= 10000;
        }
        if (script < 0 || script >= unit) {
            throw new IllegalArgumentException("no such script");
        }
        copy.copyFrom(log);
        long rest = script;
        for (int i = 0; i < n; i++) {
            unit = Math.max(unit / 10000, 1);
            int group = (int) (rest / unit);
            rest %= unit;
            if (!isCommand(group) || !perform(copy, group / 1000, group / 100 % 10, group % 100)) {
                return i;
            }
        }
        return NONE;
    }

    public int simulate(long seed, int m) throws IllegalArgumentException {
        if (m < 1 || m > MOST_ROUNDS) {
            throw new IllegalArgumentException("no such number of rounds");
        }
        copy.copyFrom(log);
        long x = seed;
        for (int i = 0; i < m; i++) {
            x = x * 6364136223846793005L + 1442695040888963407L;
            int r = (int) (x >>> 33);
            if (!copy.on) {
                copy.switchOn();
            }
            if (r % 8 == 0) {
                perform(copy, REMOVE, r / 8 % KEYS, 0);
            } else if (r % 8 == 1) {
                perform(copy, SET_CUT, 0, 1 + r / 8 % 20);
            } else {
                perform(copy, PUT, r / 8 % KEYS, r / 128 % 1000);
            }
        }
        int operations = copy.tally.operations - log.tally.operations;
        int cuts = copy.tally.cuts - log.tally.cuts;
        return 1000 * operations + 20 * cuts + copy.flash.countKeys();
    }

    // ---- save slots

    public int save(int slot) throws IndexOutOfBoundsException {
        if (slot < 0 || slot >= SLOTS) {
            throw new IndexOutOfBoundsException("no such save slot");
        }
        slots.keep(slot, log);
        return log.flash.countKeys();
    }

    public int restore(int slot) throws IndexOutOfBoundsException, IllegalStateException {
        if (slot < 0 || slot >= SLOTS) {
            throw new IndexOutOfBoundsException("no such save slot");
        }
        if (!slots.isUsed(slot)) {
            throw new IllegalStateException("nothing is saved in it");
        }
        slots.bringBack(slot, log);
        history.forget();
        return log.flash.countKeys();
    }

    private static boolean isKey(int key) {
        return key >= 0 && key < KEYS;
    }

    private static boolean isValue(int value) {
        return value >= 0 && value <= GREATEST_VALUE;
    }

    /** The operations of a record that is written now without a power cut; 0 if there is no room. */
    private int costOfRecord(Log state) {
        if (!state.on) {
            return 0;
        }
        trial.copyFrom(state);
        trial.cutIn = 0;
        // Which record it is makes no difference: its sweeps come before it is written.
        if (trial.store(0, 0) == NONE) {
            return 0;
        }
        return trial.tally.operations - state.tally.operations;
    }

    /** Whether a group of four digits has zeros where a command of a script has them. */
    private static boolean isCommand(int group) {
        switch (group / 1000) {
            case PUT:
            case VALUE_IS:
            case WEAR_AT_MOST:
                return true;
            case REMOVE:
                return group % 100 == 0;
            case SWEEP:
            case SWITCH_ON:
                return group % 1000 == 0;
            case SET_CUT:
                return group / 100 % 10 == 0;
            case CLEAN_AT_LEAST:
            case SET_POLICY:
                return group / 10 % 100 == 0;
            default:
                return false;
        }
    }

    /** Runs a command of a story or a script; false, and nothing is changed, if it fails. */
    private boolean perform(Log target, int command, int which, int number) {
        switch (command) {
            case PUT:
                return costOfRecord(target) > 0 && target.store(which, number) != NONE;
            case REMOVE:
                return target.flash.valueOf(which) != NONE && costOfRecord(target) > 0
                        && target.store(which, REMOVAL) != NONE;
            case SWEEP:
                int chosen = target.chooseVictim();
                return chosen != NONE && target.sweepBlock(chosen) != NONE;
            case SET_CUT:
                if (target.on) {
                    target.cutIn = number;
                    return true;
                }
                return false;
            case SWITCH_ON:
                return target.switchOn();
            case VALUE_IS:
                return target.on && target.flash.valueOf(which) == number;
            case WEAR_AT_MOST:
                return target.flash.hasBlock(which) && target.flash.wearOf(which) <= number;
            case CLEAN_AT_LEAST:
                return target.tell(4) >= number;
            case SET_POLICY:
                if (number <= GREATEST_POLICY) {
                    target.policy = number;
                    return true;
                }
                return false;
            default:
                return false;
        }
    }

    private static void copyRow(int[] from, int[] to) {
        System.arraycopy(from, 0, to, 0, Math.min(from.length, to.length));
    }

    /** The text buffer, and a reader that goes over it from left to right. */
    private static final class Story {
        static final int MOST_TEXT = 90;

        private final int[] text = new int[MOST_TEXT];
        private int length;

        /** Where the reader stands: behind what it has read, or at what is not allowed. */
        private int at;

        int blocks;
        int life;
        int command;
        int key;
        int number;

        boolean isFull() {
            return length >= MOST_TEXT;
        }

        int add(int c) {
            if (length >= 0 && length < MOST_TEXT) {
                text[length] = c;
                length++;
            }
            return length;
        }

        int empty() {
            int before = length;
            length = 0;
            return before;
        }

        int firstError() {
            boolean allowed = readChip();
            for (int i = 0; i < MOST_TEXT && allowed && hasMore(); i++) {
                allowed = readCommand();
            }
            return allowed ? NONE : at;
        }

        boolean hasMore() {
            return at < length;
        }

        boolean readChip() {
            at = 0;
            if (current() != 'F') {
                return false;
            }
            at++;
            blocks = readNumber(1, 3, 8);
            if (blocks == NONE) {
                return false;
            }
            life = readNumber(2, 1, 99);
            return life != NONE;
        }

        boolean readCommand() {
            command = commandOf(current());
            if (command == NONE) {
                return false;
            }
            at++;
            key = 0;
            number = 0;
            if (command == PUT || command == REMOVE) {
                key = readNumber(2, 0, KEYS - 1);
                if (key == NONE) {
                    return false;
                }
            }
            if (command == PUT) {
                number = readNumber(3, 0, GREATEST_VALUE);
            } else if (command == SET_CUT) {
                number = readNumber(2, 0, GREATEST_CUT);
            } else if (command == SET_POLICY) {
                number = readNumber(1, 0, GREATEST_POLICY);
            }
            return number != NONE;
        }

        private static int commandOf(int c) {
            switch (c) {
                case 'p':
                    return PUT;
                case 'd':
                    return REMOVE;
                case 'w':
                    return SWEEP;
                case 'c':
                    return SET_CUT;
                case 's':
                    return SWITCH_ON;
                case 'q':
                    return SET_POLICY;
                default:
                    return NONE;
            }
        }

        /** Reads digits as long as a number from low to high can begin with them; NONE if one can't. */
        private int readNumber(int digits, int low, int high) {
            int span = 1;
            for (int i = 0; i < digits; i++) {
                span *= 10;
            }
            int read = 0;
            for (int i = 0; i < digits; i++) {
                int digit = current() - '0';
                if (digit < 0 || digit > 9) {
                    return NONE;
                }
                span /= 10;
                int least = (read + digit) * span;
                if (least > high || least + span - 1 < low) {
                    return NONE;
                }
                read = (read + digit) * 10;
                at++;
            }
            return read / 10;
        }

        /** The character at the reader; NONE, which is no character, behind the text. */
        private int current() {
            return at >= 0 && at < length && at < MOST_TEXT ? text[at] : NONE;
        }
    }

    /** The pages and blocks as they are, whether the power is on or off. */
    private static final class Flash {
        static final int BLOCK_PAGES = 4;
        static final int MOST_BLOCKS = 8;
        static final int MOST_PAGES = 32;
        static final int CLEAN = 0;
        static final int WRITTEN = 1;
        static final int TORN = 2;

        private final int[] kinds = new int[MOST_PAGES];
        private final int[] keys = new int[MOST_PAGES];
        private final int[] values = new int[MOST_PAGES];
        private final int[] marks = new int[MOST_PAGES];
        private final int[] wears = new int[MOST_BLOCKS];

        // These follow from the pages; they are kept since a sweep asks for them again and again.
        private final int[] live = new int[MOST_PAGES];
        private final int[] newest = new int[KEYS];

        /** The clean pages of each block: always its last ones, as pages are written in their order. */
        private final int[] free = new int[MOST_BLOCKS];

        int blocks;

        void renew(int count) {
            blocks = Math.max(0, Math.min(count, MOST_BLOCKS));
            for (int a = 0; a < MOST_PAGES; a++) {
                kinds[a] = CLEAN;
            }
            for (int b = 0; b < MOST_BLOCKS; b++) {
                wears[b] = 0;
                free[b] = BLOCK_PAGES;
            }
            findRecords();
        }

        void copyFrom(Flash other) {
            blocks = other.blocks;
            copyRow(other.kinds, kinds);
            copyRow(other.keys, keys);
            copyRow(other.values, values);
            copyRow(other.marks, marks);
            copyRow(other.wears, wears);
            copyRow(other.live, live);
            copyRow(other.newest, newest);
            copyRow(other.free, free);
        }

        boolean hasPage(int address) {
            return address >= 0 && address < BLOCK_PAGES * blocks && address < MOST_PAGES;
        }

        boolean hasBlock(int b) {
            return b >= 0 && b < blocks && b < MOST_BLOCKS;
        }

        int tellPage(int address, int what) {
            if (address < 0 || address >= MOST_PAGES) {
                return NONE;
            }
            if (what == 0) {
                return kinds[address];
            }
            if (kinds[address] != WRITTEN) {
                return NONE;
            }
            switch (what) {
                case 1:
                    return keys[address];
                case 2:
                    return values[address];
                case 3:
                    return marks[address];
                default:
                    return live[address];
            }
        }

        int newestOf(int key) {
            return key >= 0 && key < KEYS ? newest[key] : NONE;
        }

        int valueOf(int key) {
            int address = newestOf(key);
            return hasPage(address) ? values[address] : NONE;
        }

        int countKeys() {
            int count = 0;
            for (int key = 0; key < KEYS; key++) {
                if (valueOf(key) != NONE) {
                    count++;
                }
            }
            return count;
        }

        int wearOf(int b) {
            return b >= 0 && b < MOST_BLOCKS ? wears[b] : 0;
        }

        int freeIn(int b) {
            return b >= 0 && b < MOST_BLOCKS ? free[b] : 0;
        }

        int countTorn(int b) {
            if (b < 0 || b >= MOST_BLOCKS) {
                return 0;
            }
            int count = 0;
            for (int a = BLOCK_PAGES * b; a < BLOCK_PAGES * b + BLOCK_PAGES; a++) {
                if (kinds[a] == TORN) {
                    count++;
                }
            }
            return count;
        }

        int countLive(int b) {
            if (b < 0 || b >= MOST_BLOCKS) {
                return 0;
            }
            int count = 0;
            for (int a = BLOCK_PAGES * b; a < BLOCK_PAGES * b + BLOCK_PAGES; a++) {
                count += live[a];
            }
            return count;
        }

        boolean hasTornOrDead(int b) {
            if (b < 0 || b >= MOST_BLOCKS) {
                return false;
            }
            for (int a = BLOCK_PAGES * b; a < BLOCK_PAGES * b + BLOCK_PAGES; a++) {
                if (kinds[a] != CLEAN && live[a] == 0) {
                    return true;
                }
            }
            return false;
        }

        int greatestMark(int b) {
            if (b < 0 || b >= MOST_BLOCKS) {
                return 0;
            }
            int greatest = 0;
            for (int a = BLOCK_PAGES * b; a < BLOCK_PAGES * b + BLOCK_PAGES; a++) {
                if (kinds[a] == WRITTEN && marks[a] > greatest) {
                    greatest = marks[a];
                }
            }
            return greatest;
        }

        int countCleanBlocks(int open) {
            int count = 0;
            for (int b = 0; b < blocks && b < MOST_BLOCKS; b++) {
                if (b != open && free[b] == BLOCK_PAGES) {
                    count++;
                }
            }
            return count;
        }

        int leastWornCleanBlock(int open) {
            int best = NONE;
            int least = 0;
            for (int b = 0; b < blocks && b < MOST_BLOCKS; b++) {
                if (b != open && free[b] == BLOCK_PAGES && (best == NONE || wears[b] < least)) {
                    best = b;
                    least = wears[b];
                }
            }
            return best;
        }

        /** Writes the next page of a block. The mark must be greater than all others there are. */
        void write(int address, int key, int value, int mark) {
            if (address < 0 || address >= MOST_PAGES || key < 0 || key >= KEYS) {
                return;
            }
            kinds[address] = WRITTEN;
            keys[address] = key;
            values[address] = value;
            marks[address] = mark;
            // A removal is live too: it is only written for a key that another page has.
            live[address] = 1;
            int before = newest[key];
            if (before >= 0 && before < MOST_PAGES) {
                live[before] = 0;
            }
            newest[key] = address;
            free[address / BLOCK_PAGES]--;
        }

        /** Tears the next page of a block. */
        void tear(int address) {
            if (address >= 0 && address < MOST_PAGES) {
                kinds[address] = TORN;
                free[address / BLOCK_PAGES]--;
            }
        }

        /** Erases a block: its pages become clean, or torn if the power is cut in it. */
        void wipe(int b, int kind) {
            if (b < 0 || b >= MOST_BLOCKS) {
                return;
            }
            wears[b]++;
            free[b] = kind == CLEAN ? BLOCK_PAGES : 0;
            for (int q = 0; q < BLOCK_PAGES; q++) {
                kinds[BLOCK_PAGES * b + q] = kind;
            }
            findRecords();
        }

        private void findRecords() {
            for (int key = 0; key < KEYS; key++) {
                newest[key] = NONE;
            }
            for (int a = 0; a < MOST_PAGES; a++) {
                live[a] = 0;
                int key = keys[a];
                if (kinds[a] == WRITTEN && key >= 0 && key < KEYS) {
                    int best = newest[key];
                    if (best < 0 || best >= MOST_PAGES || marks[a] > marks[best]) {
                        newest[key] = a;
                    }
                }
            }
            for (int a = 0; a < MOST_PAGES; a++) {
                int key = keys[a];
                if (kinds[a] == WRITTEN && key >= 0 && key < KEYS) {
                    int best = newest[key];
                    // A removal is live only if there is another page with its key.
                    if (best >= 0 && best < MOST_PAGES && (a != best || values[a] != REMOVAL)) {
                        live[best] = 1;
                    }
                }
            }
        }
    }

    /** What was counted so far, and the latest power cut. */
    private static final class Tally {
        int operations;
        int written;
        int copies;
        int erased;
        int cuts;
        private int cutAddress;
        private int cutErasing;
        private int cutInSweep;

        void renew() {
            operations = 0;
            written = 0;
            copies = 0;
            erased = 0;
            cuts = 0;
            cutAddress = NONE;
            cutErasing = NONE;
            cutInSweep = NONE;
        }

        void copyFrom(Tally other) {
            operations = other.operations;
            written = other.written;
            copies = other.copies;
            erased = other.erased;
            cuts = other.cuts;
            cutAddress = other.cutAddress;
            cutErasing = other.cutErasing;
            cutInSweep = other.cutInSweep;
        }

        void countCut(int address, boolean erasing, boolean inSweep) {
            cuts++;
            cutAddress = address;
            cutErasing = erasing ? 1 : 0;
            cutInSweep = inSweep ? 1 : 0;
        }

        int tell(int what) {
            switch (what) {
                case 6:
                    return operations;
                case 7:
                    return written;
                case 8:
                    return copies;
                case 9:
                    return erased;
                default:
                    return cuts;
            }
        }

        int tellCut(int what) {
            switch (what) {
                case 0:
                    return cutAddress;
                case 1:
                    return cutErasing;
                default:
                    return cutInSweep;
            }
        }
    }

    /** The state: everything but the text, the save slots and the remembered states. */
    private static final class Log {
        /** More than any record needs: each sweep leaves fewer pages that are not clean, of 32 at most. */
        private static final int MOST_SWEEPS = 1000;

        final Flash flash = new Flash();
        final Tally tally = new Tally();
        boolean on;
        int policy;

        /** On which of the next operations the cut is set; 0 if none is. */
        int cutIn;

        private int life;
        private int open;
        private int nextMark;

        Log() {
            renew(4, 20);
        }

        void renew(int blocks, int newLife) {
            flash.renew(blocks);
            tally.renew();
            on = true;
            policy = 0;
            cutIn = 0;
            life = newLife;
            open = NONE;
            nextMark = 1;
        }

        void copyFrom(Log other) {
            flash.copyFrom(other.flash);
            tally.copyFrom(other.tally);
            on = other.on;
            policy = other.policy;
            cutIn = other.cutIn;
            life = other.life;
            open = other.open;
            nextMark = other.nextMark;
        }

        int tell(int what) {
            switch (what) {
                case 0:
                    return flash.blocks;
                case 1:
                    return life;
                case 2:
                    return on ? 1 : 0;
                case 3:
                    return open;
                case 4:
                    return flash.countCleanBlocks(open);
                case 5:
                    return flash.countKeys();
                case 11:
                    return cutIn;
                case 12:
                    return policy;
                default:
                    return wearSpread();
            }
        }

        int tellBlock(int b, int what) {
            switch (what) {
                case 0:
                    return flash.wearOf(b);
                case 1:
                    return flash.countLive(b);
                case 2:
                    return flash.freeIn(b);
                case 3:
                    return flash.countTorn(b);
                case 4:
                    return flash.wearOf(b) >= life ? 1 : 0;
                default:
                    return canBeVictim(b) ? 1 : 0;
            }
        }

        private int wearSpread() {
            int least = flash.wearOf(0);
            int greatest = least;
            for (int b = 1; b < flash.blocks; b++) {
                least = Math.min(least, flash.wearOf(b));
                greatest = Math.max(greatest, flash.wearOf(b));
            }
            return greatest - least;
        }

        boolean hasSomethingToSweep() {
            for (int b = 0; b < flash.blocks; b++) {
                if (b != open && flash.hasTornOrDead(b)) {
                    return true;
                }
            }
            return false;
        }

        private boolean canBeVictim(int b) {
            if (!on || b == open || flash.wearOf(b) >= life || !flash.hasTornOrDead(b)) {
                return false;
            }
            int room = flash.freeIn(open) + (flash.countCleanBlocks(open) > 0 ? Flash.BLOCK_PAGES : 0);
            return flash.countLive(b) <= room;
        }

        /** The block that the policy would sweep; NONE if none can be swept, or the power is off. */
        int chooseVictim() {
            int best = NONE;
            for (int b = 0; b < flash.blocks; b++) {
                if (canBeVictim(b) && (best == NONE || goesBefore(b, best))) {
                    best = b;
                }
            }
            return best;
        }

        private boolean goesBefore(int b, int other) {
            if (policy == 2) {
                return flash.greatestMark(b) < flash.greatestMark(other);
            }
            int wear = flash.wearOf(b) - flash.wearOf(other);
            int live = flash.countLive(b) - flash.countLive(other);
            if (policy == 1) {
                return wear < 0 || wear == 0 && live < 0;
            }
            return live < 0 || live == 0 && wear < 0;
        }

        /** Switches the power on; false if it is on already. */
        boolean switchOn() {
            if (on) {
                return false;
            }
            int newestBlock = NONE;
            int greatest = 0;
            for (int b = 0; b < flash.blocks; b++) {
                if (flash.greatestMark(b) > greatest) {
                    newestBlock = b;
                    greatest = flash.greatestMark(b);
                }
            }
            on = true;
            open = flash.freeIn(newestBlock) > 0 ? newestBlock : NONE;
            nextMark = greatest + 1;
            return true;
        }

        /** Writes a record. Returns its address, CUT if the power is cut, NONE if there is no room. */
        int store(int key, int value) {
            for (int sweeps = 0; sweeps < MOST_SWEEPS; sweeps++) {
                // The last clean block is left to the copies of a sweep.
                int address = takePage(2);
                if (address != NONE) {
                    return writePage(address, key, value, false) ? address : CUT;
                }
                int chosen = chooseVictim();
                if (chosen == NONE) {
                    return NONE;
                }
                if (sweepBlock(chosen) == CUT) {
                    return CUT;
                }
            }
            return NONE;
        }

        /** Copies what is live in a block and erases it. Returns the block, or CUT. */
        int sweepBlock(int chosen) {
            int first = Flash.BLOCK_PAGES * chosen;
            int wasLive = 0;
            // A copy makes its own record dead, and may make others so: what counts is how it began.
            for (int q = 0; q < Flash.BLOCK_PAGES; q++) {
                if (flash.tellPage(first + q, 4) == 1) {
                    wasLive |= 1 << q;
                }
            }
            for (int q = 0; q < Flash.BLOCK_PAGES; q++) {
                if ((wasLive >> q & 1) != 0) {
                    int key = flash.tellPage(first + q, 1);
                    int value = flash.tellPage(first + q, 2);
                    if (!writePage(takePage(1), key, value, true)) {
                        return CUT;
                    }
                }
            }
            if (isCutNow()) {
                flash.wipe(chosen, Flash.TORN);
                tally.countCut(first, true, true);
                switchOff();
                return CUT;
            }
            flash.wipe(chosen, Flash.CLEAN);
            tally.erased++;
            return chosen;
        }

        /** The next page, in a new open block if there are so many clean ones as are needed for that. */
        private int takePage(int cleanBlocksNeeded) {
            if (flash.freeIn(open) == 0) {
                if (flash.countCleanBlocks(open) < cleanBlocksNeeded) {
                    return NONE;
                }
                open = flash.leastWornCleanBlock(open);
            }
            return Flash.BLOCK_PAGES * (open + 1) - flash.freeIn(open);
        }

        /** Writes a clean page with the next mark; false if the power is cut. */
        private boolean writePage(int address, int key, int value, boolean inSweep) {
            if (isCutNow()) {
                flash.tear(address);
                tally.countCut(address, false, inSweep);
                switchOff();
                return false;
            }
            flash.write(address, key, value, nextMark);
            nextMark++;
            tally.written++;
            if (inSweep) {
                tally.copies++;
            }
            return true;
        }

        /** Counts an operation, and tells whether the cut that is set falls on it. */
        private boolean isCutNow() {
            tally.operations++;
            if (cutIn == 0) {
                return false;
            }
            cutIn--;
            return cutIn == 0;
        }

        private void switchOff() {
            on = false;
            open = NONE;
        }
    }

    /** The states before the last actions, in rows that are used again and again. */
    private static final class History {
        private static final int MOST = 14;

        private final Log[] states = new Log[MOST];
        private int next;
        int count;

        History() {
            for (int i = 0; i < MOST; i++) {
                states[i] = new Log();
            }
        }

        void forget() {
            count = 0;
        }

        void remember(Log state) {
            if (next >= 0 && next < MOST && states[next] != null) {
                states[next].copyFrom(state);
            }
            next = (next + 1) % MOST;
            count = Math.min(count + 1, MOST);
        }

        void takeBack(Log target) {
            next = (next + MOST - 1) % MOST;
            count = Math.max(count - 1, 0);
            if (next >= 0 && next < MOST && states[next] != null) {
                target.copyFrom(states[next]);
            }
        }
    }

    /** The save slots. */
    private static final class Slots {
        private final Log[] states = new Log[SLOTS];
        private final boolean[] used = new boolean[SLOTS];

        Slots() {
            for (int i = 0; i < SLOTS; i++) {
                states[i] = new Log();
            }
        }

        void empty() {
            for (int i = 0; i < SLOTS; i++) {
                used[i] = false;
            }
        }

        boolean isUsed(int slot) {
            return slot >= 0 && slot < SLOTS && used[slot];
        }

        void keep(int slot, Log state) {
            if (slot >= 0 && slot < SLOTS && states[slot] != null) {
                states[slot].copyFrom(state);
                used[slot] = true;
            }
        }

        void bringBack(int slot, Log target) {
            if (slot >= 0 && slot < SLOTS && states[slot] != null) {
                target.copyFrom(states[slot]);
            }
        }
    }
}
