import java.util.ArrayList;
import java.util.List;
import java.util.regex.Matcher;
import java.util.regex.Pattern;

/**
 * The document once more, as slow and as plain as can be: nothing is kept that can be looked up,
 * every question copies the whole chip. ModelTest compares the class with it.
 */
final class Model {
    static final int NONE = -9;
    static final int CUT = -2;

    /** A page: null is clean. */
    record Page(boolean torn, int key, int value, int mark) {
    }

    /** Thrown by an operation on which the cut falls. */
    private static final class PowerCut extends RuntimeException {
        private static final long serialVersionUID = 1L;
    }

    /** Thrown where no block can be swept. */
    private static final class NoRoom extends RuntimeException {
        private static final long serialVersionUID = 1L;
    }

    static final class Chip {
        int b = 4;
        int l = 20;
        Page[][] pages = new Page[4][4];
        int[] wear = new int[4];
        boolean on = true;
        int open = NONE;
        int lastMark;
        int cut;
        int policy;
        int ops;
        int written;
        int copied;
        int erased;
        int cuts;
        int[] lastCut = {NONE, NONE, NONE};

        Chip() {
        }

        Chip(int b, int l) {
            this.b = b;
            this.l = l;
            pages = new Page[b][4];
            wear = new int[b];
        }

        Chip(Chip c) {
            b = c.b;
            l = c.l;
            pages = new Page[b][];
            for (int i = 0; i < b; i++) {
                pages[i] = c.pages[i].clone();
            }
            wear = c.wear.clone();
            on = c.on;
            open = c.open;
            lastMark = c.lastMark;
            cut = c.cut;
            policy = c.policy;
            ops = c.ops;
            written = c.written;
            copied = c.copied;
            erased = c.erased;
            cuts = c.cuts;
            lastCut = c.lastCut.clone();
        }

        boolean written(int i, int q) {
            return pages[i][q] != null && !pages[i][q].torn;
        }

        int newest(int key) {
            int best = NONE;
            for (int a = 0; a < 4 * b; a++) {
                if (written(a / 4, a % 4) && at(a).key == key && (best == NONE || at(a).mark > at(best).mark)) {
                    best = a;
                }
            }
            return best;
        }

        Page at(int address) {
            return pages[address / 4][address % 4];
        }

        int value(int key) {
            int a = newest(key);
            return a == NONE ? NONE : at(a).value;
        }

        int keys() {
            int n = 0;
            for (int k = 0; k < 16; k++) {
                n += value(k) == NONE ? 0 : 1;
            }
            return n;
        }

        boolean live(int a) {
            if (!written(a / 4, a % 4) || newest(at(a).key) != a) {
                return false;
            }
            if (at(a).value != NONE) {
                return true;
            }
            for (int o = 0; o < 4 * b; o++) {
                if (o != a && written(o / 4, o % 4) && at(o).key == at(a).key) {
                    return true;
                }
            }
            return false;
        }

        int lives(int i) {
            int n = 0;
            for (int q = 0; q < 4; q++) {
                n += live(4 * i + q) ? 1 : 0;
            }
            return n;
        }

        boolean fourClean(int i) {
            for (Page p : pages[i]) {
                if (p != null) {
                    return false;
                }
            }
            return true;
        }

        List<Integer> cleanBlocks() {
            List<Integer> found = new ArrayList<>();
            for (int i = 0; i < b; i++) {
                if (fourClean(i) && !(on && i == open)) {
                    found.add(i);
                }
            }
            found.sort((x, y) -> wear[x] != wear[y] ? wear[x] - wear[y] : x - y);
            return found;
        }

        boolean tornOrDead(int i) {
            for (int q = 0; q < 4; q++) {
                if (pages[i][q] != null && !live(4 * i + q)) {
                    return true;
                }
            }
            return false;
        }

        /** The index of the first clean page behind all that are not; 4 if there is none. */
        int next(int i) {
            int q = 4;
            while (q > 0 && pages[i][q - 1] == null) {
                q--;
            }
            return q;
        }

        boolean canBeVictim(int i) {
            if (!on || i == open || fourClean(i) || wear[i] >= l || !tornOrDead(i)) {
                return false;
            }
            int room = open == NONE ? 0 : 4 - next(open);
            if (!cleanBlocks().isEmpty()) {
                room += 4;
            }
            return lives(i) == 0 || lives(i) <= room;
        }

        int topMark(int i) {
            int top = 0;
            for (int q = 0; q < 4; q++) {
                top = written(i, q) ? Math.max(top, pages[i][q].mark) : top;
            }
            return top;
        }

        int[] rank(int i) {
            switch (policy) {
                case 0:
                    return new int[] {lives(i), wear[i], i};
                case 1:
                    return new int[] {wear[i], lives(i), i};
                default:
                    return new int[] {topMark(i), i, 0};
            }
        }

        int victim() {
            List<Integer> can = new ArrayList<>();
            for (int i = 0; i < b; i++) {
                if (canBeVictim(i)) {
                    can.add(i);
                }
            }
            can.sort((x, y) -> java.util.Arrays.compare(rank(x), rank(y)));
            return can.isEmpty() ? NONE : can.get(0);
        }

        private void operation(int address, boolean erase, boolean inSweep) {
            ops++;
            boolean falls = cut == 1;
            cut = Math.max(0, cut - 1);
            if (!falls) {
                return;
            }
            Page torn = new Page(true, 0, 0, 0);
            if (erase) {
                wear[address / 4]++;
                pages[address / 4] = new Page[] {torn, torn, torn, torn};
            } else {
                pages[address / 4][address % 4] = torn;
            }
            lastCut = new int[] {address, erase ? 1 : 0, inSweep ? 1 : 0};
            cuts++;
            on = false;
            open = NONE;
            throw new PowerCut();
        }

        private int write(int key, int value, boolean inSweep) {
            int a = 4 * open + next(open);
            operation(a, false, inSweep);
            lastMark++;
            pages[a / 4][a % 4] = new Page(false, key, value, lastMark);
            written++;
            copied += inSweep ? 1 : 0;
            return a;
        }

        private int sweepOrThrow() {
            int v = victim();
            if (v == NONE) {
                throw new NoRoom();
            }
            List<Page> records = new ArrayList<>();
            for (int q = 0; q < 4; q++) {
                if (live(4 * v + q)) {
                    records.add(pages[v][q]);
                }
            }
            for (Page p : records) {
                if (open == NONE || next(open) == 4) {
                    open = cleanBlocks().get(0);
                }
                write(p.key, p.value, true);
            }
            operation(4 * v, true, true);
            wear[v]++;
            pages[v] = new Page[4];
            erased++;
            return v;
        }

        private int storeOrThrow(int key, int value) {
            while (open == NONE || next(open) == 4) {
                if (cleanBlocks().size() >= 2) {
                    open = cleanBlocks().get(0);
                } else {
                    sweepOrThrow();
                }
            }
            return write(key, value, false);
        }

        int sweep() {
            try {
                return sweepOrThrow();
            } catch (PowerCut e) {
                return CUT;
            }
        }

        int store(int key, int value) {
            try {
                return storeOrThrow(key, value);
            } catch (PowerCut e) {
                return CUT;
            }
        }

        /** The operations of a record, 0 if there is no room. */
        int cost() {
            Chip c = new Chip(this);
            c.cut = 0;
            try {
                if (on) {
                    c.storeOrThrow(0, 0);
                }
            } catch (NoRoom e) {
                return 0;
            }
            return c.ops - ops;
        }

        int whyNoRoom() {
            if (!on) {
                return 1;
            }
            if (cost() > 0) {
                return 0;
            }
            for (int i = 0; i < b; i++) {
                if (i != open && tornOrDead(i)) {
                    return 3;
                }
            }
            return 2;
        }

        void start() {
            on = true;
            open = NONE;
            lastMark = 0;
            for (int i = 0; i < b; i++) {
                if (topMark(i) > lastMark) {
                    lastMark = topMark(i);
                    open = next(i) < 4 ? i : NONE;
                }
            }
        }
    }

    private static final Pattern COMMAND =
            Pattern.compile("p(0\\d|1[0-5])\\d\\d\\d|d(0\\d|1[0-5])|w|c\\d\\d|s|q[0-2]");
    private static final Pattern STORY =
            Pattern.compile("F[3-8](0[1-9]|[1-9]\\d)(" + COMMAND.pattern() + ")*");

    private final StringBuilder text = new StringBuilder();
    private Chip now = new Chip();
    private final List<Chip> remembered = new ArrayList<>();
    private final Chip[] slots = new Chip[2];

    private static void argument(boolean fine) {
        if (!fine) {
            throw new IllegalArgumentException();
        }
    }

    private static void index(boolean fine) {
        if (!fine) {
            throw new IndexOutOfBoundsException();
        }
    }

    private static void state(boolean fine) {
        if (!fine) {
            throw new IllegalStateException();
        }
    }

    private void remember() {
        remembered.add(new Chip(now));
        if (remembered.size() > 14) {
            remembered.remove(0);
        }
    }

    int append(int c) {
        argument(c >= 0 && c <= 255);
        state(text.length() < 90);
        text.append((char) c);
        return text.length();
    }

    int clearText() {
        int n = text.length();
        text.setLength(0);
        return n;
    }

    int errorPosition() {
        Matcher m = STORY.matcher(text);
        if (m.matches()) {
            return NONE;
        }
        // The error position is the length of the longest start that more characters could make a story.
        for (int n = text.length(); n > 0; n--) {
            Matcher start = STORY.matcher(text.substring(0, n));
            if (start.matches() || start.hitEnd()) {
                return n;
            }
        }
        return 0;
    }

    int load() {
        state(errorPosition() == NONE);
        now = new Chip(text.charAt(1) - '0', Integer.parseInt(text.substring(2, 4)));
        Matcher m = COMMAND.matcher(text.substring(4));
        int left = 0;
        while (m.find()) {
            try {
                String c = m.group();
                switch (c.charAt(0)) {
                    case 'p':
                        put(Integer.parseInt(c.substring(1, 3)), Integer.parseInt(c.substring(3)));
                        break;
                    case 'd':
                        remove(Integer.parseInt(c.substring(1)));
                        break;
                    case 'w':
                        sweep();
                        break;
                    case 'c':
                        cut(Integer.parseInt(c.substring(1)));
                        break;
                    case 's':
                        start();
                        break;
                    default:
                        setPolicy(c.charAt(1) - '0');
                }
            } catch (IllegalStateException e) {
                left++;
            }
        }
        remembered.clear();
        slots[0] = null;
        slots[1] = null;
        return left;
    }

    int about(int what) {
        argument(what >= 0 && what <= 13);
        int most = 0;
        int least = 1000;
        for (int w : now.wear) {
            most = Math.max(most, w);
            least = Math.min(least, w);
        }
        return new int[] {now.b, now.l, now.on ? 1 : 0, now.on ? now.open : NONE, now.cleanBlocks().size(),
            now.keys(), now.ops, now.written, now.copied, now.erased, now.cuts, now.cut, now.policy,
            most - least}[what];
    }

    int page(int address, int what) {
        index(address >= 0 && address < 4 * now.b);
        argument(what >= 0 && what <= 4);
        Page p = now.at(address);
        if (p == null || p.torn) {
            return what > 0 ? NONE : p == null ? 0 : 2;
        }
        return new int[] {1, p.key, p.value, p.mark, now.live(address) ? 1 : 0}[what];
    }

    int block(int i, int what) {
        index(i >= 0 && i < now.b);
        argument(what >= 0 && what <= 5);
        int clean = 0;
        int torn = 0;
        for (Page p : now.pages[i]) {
            clean += p == null ? 1 : 0;
            torn += p != null && p.torn ? 1 : 0;
        }
        return new int[] {now.wear[i], now.lives(i), clean, torn, now.wear[i] >= now.l ? 1 : 0,
            now.canBeVictim(i) ? 1 : 0}[what];
    }

    int get(int key) {
        argument(key >= 0 && key <= 15);
        state(now.on);
        return now.value(key);
    }

    int keyAt(int i) {
        argument(i >= 0);
        List<Integer> keys = new ArrayList<>();
        for (int k = 0; k < 16; k++) {
            if (now.value(k) != NONE) {
                keys.add(k);
            }
        }
        return i < keys.size() ? keys.get(i) : NONE;
    }

    int newest(int key) {
        argument(key >= 0 && key <= 15);
        return now.newest(key);
    }

    int lastCut(int what) {
        argument(what >= 0 && what <= 2);
        return now.lastCut[what];
    }

    int put(int key, int value) {
        argument(key >= 0 && key <= 15 && value >= 0 && value <= 999);
        state(whyNoRoom() == 0);
        remember();
        return now.store(key, value);
    }

    int remove(int key) {
        argument(key >= 0 && key <= 15);
        state(whyNoRoom() == 0 && now.value(key) != NONE);
        remember();
        return now.store(key, NONE);
    }

    int sweep() {
        state(now.on && now.victim() != NONE);
        remember();
        return now.sweep();
    }

    int cut(int n) {
        argument(n >= 0 && n <= 99);
        state(now.on);
        remember();
        int before = now.cut;
        now.cut = n;
        return before;
    }

    int start() {
        state(!now.on);
        remember();
        now.start();
        return now.keys();
    }

    int setPolicy(int policy) {
        argument(policy >= 0 && policy <= 2);
        remember();
        int before = now.policy;
        now.policy = policy;
        return before;
    }

    int undo() {
        state(!remembered.isEmpty());
        now = remembered.remove(remembered.size() - 1);
        return remembered.size();
    }

    int victim() {
        return now.victim();
    }

    int whyNoRoom() {
        return now.whyNoRoom();
    }

    int operations() {
        state(whyNoRoom() == 0);
        return now.cost();
    }

    int afterCut(int key, int value, int n) {
        argument(key >= 0 && key <= 15 && value >= 0 && value <= 999 && n >= 1 && n <= 99);
        state(whyNoRoom() == 0);
        Chip c = new Chip(now);
        c.cut = n;
        c.store(key, value);
        if (!c.on) {
            c.start();
        }
        return c.value(key);
    }

    int lasts(int key) {
        argument(key >= 0 && key <= 15);
        Chip c = new Chip(now);
        c.cut = 0;
        int n = 0;
        while (n < 300 && c.whyNoRoom() == 0) {
            c.store(key, 0);
            n++;
        }
        return n;
    }

    int oldest() {
        int best = NONE;
        for (int k = 0; k < 16; k++) {
            if (now.value(k) != NONE
                    && (best == NONE || now.at(now.newest(k)).mark < now.at(now.newest(best)).mark)) {
                best = k;
            }
        }
        return best;
    }

    /** Runs calls on a copy of the state, which is thrown away afterwards. */
    private Model onCopy() {
        Model m = new Model();
        m.now = new Chip(now);
        return m;
    }

    int runScript(int n, long script) {
        argument(n >= 1 && n <= 4);
        argument(script >= 0 && String.valueOf(script).length() <= 4 * n);
        String digits = String.format("%0" + 4 * n + "d", script);
        Model m = onCopy();
        for (int i = 0; i < n; i++) {
            try {
                if (!m.succeeds(digits.substring(4 * i, 4 * i + 4))) {
                    return i;
                }
            } catch (IllegalStateException | IllegalArgumentException e) {
                return i;
            }
        }
        return NONE;
    }

    private boolean succeeds(String g) {
        int k = g.charAt(1) - '0';
        int xy = Integer.parseInt(g.substring(2));
        if (g.charAt(0) == '1') {
            put(k, xy);
        } else if (g.matches("2.00")) {
            remove(k);
        } else if (g.equals("3000")) {
            sweep();
        } else if (g.matches("40..")) {
            cut(xy);
        } else if (g.equals("5000")) {
            start();
        } else if (g.charAt(0) == '6') {
            return now.on && now.value(k) == xy;
        } else if (g.charAt(0) == '7') {
            return k < now.b && now.wear[k] <= xy;
        } else if (g.matches("800.")) {
            return about(4) >= xy;
        } else if (g.matches("900.")) {
            setPolicy(xy);
        } else {
            return false;
        }
        return true;
    }

    int simulate(long seed, int m) {
        argument(m >= 1 && m <= 99);
        Chip c = new Chip(now);
        long x = seed;
        for (int i = 0; i < m; i++) {
            x = x * 6364136223846793005L + 1442695040888963407L;
            int r = (int) (x >>> 33);
            if (!c.on) {
                c.start();
            }
            int key = r / 8 % 16;
            if (r % 8 == 1) {
                c.cut = 1 + r / 8 % 20;
            } else if (c.whyNoRoom() == 0) {
                if (r % 8 != 0) {
                    c.store(key, r / 128 % 1000);
                } else if (c.value(key) != NONE) {
                    c.store(key, NONE);
                }
            }
        }
        return 1000 * (c.ops - now.ops) + 20 * (c.cuts - now.cuts) + c.keys();
    }

    int save(int slot) {
        index(slot == 0 || slot == 1);
        slots[slot] = new Chip(now);
        return now.keys();
    }

    int restore(int slot) {
        index(slot == 0 || slot == 1);
        state(slots[slot] != null);
        now = new Chip(slots[slot]);
        remembered.clear();
        return now.keys();
    }
}
