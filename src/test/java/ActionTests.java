/** Promises 13 to 19: the actions. */
final class ActionTests {
    private ActionTests() {
    }

    static void run() {
        putFillsBlocks();
        putSweeps();
        putThrows();
        remove();
        sweep();
        policies();
        policyTies();
        cut();
        start();
        startBehindErasedMarks();
        setPolicy();
        undo();
        undoOfEachAction();
    }

    /** Puts the value 0 for these keys. */
    private static void puts(TornPageLog log, int... keys) {
        for (int key : keys) {
            log.put(key, 0);
        }
    }

    private static void putFillsBlocks() {
        TornPageLog log = new TornPageLog();
        for (int i = 0; i < 12; i++) {
            Check.same("put number " + i, log.put(i, 10 * i), i);
            Check.same("mark of put number " + i, log.page(i, 3), i + 1);
        }
        Check.same("the open block is full and stays", log.about(3), 2);
        Check.same("the last clean block is left", log.about(4), 1);
        Check.badState(log, "put with no room", () -> log.put(0, 1));
    }

    private static void putSweeps() {
        TornPageLog log = Look.loaded("F320");
        puts(log, 0, 1, 0, 0, 0, 2, 3, 4);
        // Of block 0, key 1 alone is live: it is copied to block 2, block 0 is erased.
        Check.same("put that sweeps", log.put(6, 66), 9);
        Check.same("its copy", log.page(8, 1), 1);
        Check.same("the mark of its copy", log.page(8, 3), 9);
        Check.same("its mark", log.page(9, 3), 10);
        Check.same("its block", log.about(3), 2);
        Check.same("what it erased", log.block(0, 2), 4);
        TornPageLog twice = noCleanBlock();
        puts(twice, 2, 3, 4);
        Check.same("no block is clean", twice.about(4), 0);
        Check.same("one block has room for its live pages", twice.victim(), 0);
        Check.same("the operations of two sweeps", twice.operations(), 4);
        Check.same("put behind two sweeps", twice.put(5, 5), 1);
        Check.same("what the second sweep copied", twice.page(0, 1), 0);
        Check.same("the second sweep erased", twice.block(1, 2), 4);
        Check.same("erased blocks", twice.about(9), 2);
        TornPageLog inSweep = Look.loaded("F320p00000p00000p00000p00000p01000p02000p03000p04000c01");
        Check.same("put that is cut in its sweep", inSweep.put(5, 0), -2);
        Check.same("that fell into a sweep", inSweep.lastCut(2), 1);
        Check.same("nothing was put", inSweep.newest(5), -9);
    }

    /** Block 0 was torn when it was swept; block 1 is full of live keys, block 2 is open with one page. */
    private static TornPageLog noCleanBlock() {
        return Look.loaded("F320p00000p01000p00000p00000p00000p02000p03000p04000c02ws");
    }

    private static void putThrows() {
        TornPageLog log = new TornPageLog();
        for (int wrong : new int[] {-1, Integer.MIN_VALUE, Integer.MAX_VALUE}) {
            Check.badArgument(log, "put with a wrong key", () -> log.put(wrong, 0));
            Check.badArgument(log, "put with a wrong value", () -> log.put(0, wrong));
        }
        Check.badArgument(log, "put of key 16", () -> log.put(16, 0));
        Check.badArgument(log, "put of 1000", () -> log.put(0, 1000));
        Check.same("put of the greatest", log.put(15, 999), 0);
        log.cut(1);
        log.put(0, 0);
        Check.badArgument(log, "put of 1000 while the power is off", () -> log.put(0, 1000));
        Check.badArgument(log, "put of key 16 while the power is off", () -> log.put(16, 0));
        Check.badState(log, "put while the power is off", () -> log.put(0, 0));
        Check.same("remembered behind puts that throw", Look.remembered(log), 3);
        TornPageLog full = new TornPageLog();
        puts(full, 0, 1, 2, 3, 4, 5, 6, 7, 8, 9, 10, 11);
        full.cut(1);
        // The cut would fall before anything is found out, but a put with no room throws.
        Check.badState(full, "put with no room and a cut", () -> full.put(0, 0));
        Check.same("the cut is still set", full.about(11), 1);
    }

    private static void remove() {
        TornPageLog log = new TornPageLog();
        Check.badState(log, "remove of a key without a value", () -> log.remove(2));
        Check.badArgument(log, "remove of key 16", () -> log.remove(16));
        Check.badArgument(log, "remove of key -1", () -> log.remove(-1));
        puts(log, 2, 3);
        Check.same("remove", log.remove(2), 2);
        Check.same("get behind remove", log.get(2), -9);
        Check.same("newest behind remove", log.newest(2), 2);
        Check.same("the removal is live", log.page(2, 4), 1);
        Check.same("the value is dead", log.page(0, 4), 0);
        Check.badState(log, "remove once more", () -> log.remove(2));
        Check.same("put behind remove", log.put(2, 1), 3);
        Check.same("the removal is dead", log.page(2, 4), 0);
        log.cut(1);
        Check.same("remove that is cut", log.remove(2), -2);
        Check.same("its page", log.page(4, 0), 2);
        Check.same("what is found then", log.newest(2), 3);
        Check.badState(log, "remove while the power is off", () -> log.remove(2));
        Check.badArgument(log, "remove of key 16 while the power is off", () -> log.remove(16));
        Check.same("remembered behind removes that throw", Look.remembered(log), 6);
        TornPageLog full = new TornPageLog();
        puts(full, 0, 1, 2, 3, 4, 5, 6, 7, 8, 9, 10, 11);
        Check.badState(full, "remove with no room", () -> full.remove(0));
    }

    private static void sweep() {
        TornPageLog log = new TornPageLog();
        Check.badState(log, "sweep of a clean chip", log::sweep);
        puts(log, 0, 0, 0, 0);
        Check.badState(log, "sweep of the open block", log::sweep);
        puts(log, 1);
        Check.same("sweep", log.sweep(), 0);
        Check.badState(log, "sweep once more", log::sweep);
        // Block 0 is worn more than the others, so blocks 2 and 3 come first.
        puts(log, 1, 1, 1, 2);
        Check.same("the next block", log.about(3), 2);
        puts(log, 2, 2, 2, 3);
        Check.same("the block behind it", log.about(3), 3);
        Check.same("sweep of the first of two", log.sweep(), 1);
        log.cut(2);
        Check.same("sweep that is cut", log.sweep(), -2);
        Check.same("what was swept", log.lastCut(0), 8);
        Check.badState(log, "sweep while the power is off", log::sweep);
        TornPageLog last = Look.loaded("F320");
        puts(last, 0, 1, 0, 0, 2, 3, 4, 5);
        Check.same("sweep into the last clean block", last.sweep(), 0);
        Check.same("it is the open block", last.about(3), 2);
        Check.same("the swept one is clean", last.about(4), 1);
    }

    /** Block 0 has 1 live page and was erased, block 5 has 2, block 1 has 3 and the oldest marks. */
    private static TornPageLog threeVictims() {
        TornPageLog log = Look.loaded("F620");
        puts(log, 0, 0, 0, 0, 1);
        log.sweep();
        puts(log, 2, 3, 1, 4, 5, 6, 4, 5, 7, 8, 9, 7, 8, 4, 10, 11, 12, 13);
        log.sweep();
        puts(log, 5, 5, 5);
        log.sweep();
        puts(log, 10, 11);
        return log;
    }

    private static void policies() {
        TornPageLog log = threeVictims();
        int[] can = {1, 1, 0, 0, 0, 1};
        int[] live = {1, 3, 0, 4, 4, 2};
        int[] wear = {1, 0, 1, 1, 0, 0};
        for (int b = 0; b < 6; b++) {
            Check.same("block " + b + " can be a victim", log.block(b, 5), can[b]);
            Check.same("live in block " + b, log.block(b, 1), live[b]);
            Check.same("wear of block " + b, log.block(b, 0), wear[b]);
        }
        Check.same("policy 0: the fewest live pages", log.victim(), 0);
        log.setPolicy(1);
        Check.same("policy 1: the least wear, then the fewest live pages", log.victim(), 5);
        log.setPolicy(2);
        Check.same("policy 2: the oldest marks", log.victim(), 1);
        Check.same("sweep with policy 2", log.sweep(), 1);
    }

    private static void policyTies() {
        TornPageLog log = Look.loaded("F520");
        puts(log, 0, 0, 0, 0, 1);
        log.sweep();
        puts(log, 1, 1, 2, 3, 3, 3, 3, 4, 5, 5, 4);
        Check.same("two live pages", log.block(1, 1), 2);
        Check.same("one live page", log.block(2, 1), 1);
        Check.same("policy 0 takes the fewest", log.victim(), 2);
        // Blocks 0 and 1 are torn, both with a wear of 1; the marks of their records are gone.
        TornPageLog torn = Look.loaded("F820p00000p00000p00000p00000p00000c01ws");
        puts(torn, 0, 0, 0, 0);
        Check.same("without live pages, that with the least wear", torn.victim(), 1);
        torn.cut(1);
        torn.sweep();
        torn.start();
        for (int policy = 0; policy < 3; policy++) {
            torn.setPolicy(policy);
            Check.same("the smallest number, policy " + policy, torn.victim(), 0);
            Check.same("the other one", torn.block(1, 5), 1);
        }
        // Blocks 1 and 2 have two live pages each, and no wear.
        TornPageLog alike = Look.loaded("F820p00000p00000p00000p00000p01000w");
        puts(alike, 2, 2, 0, 3, 3, 3, 4);
        Check.same("two that are alike", alike.block(1, 1) - alike.block(2, 1), 0);
        for (int policy = 0; policy < 3; policy++) {
            alike.setPolicy(policy);
            Check.same("the first of two that are alike, policy " + policy, alike.victim(), 1);
        }
    }

    private static void cut() {
        TornPageLog log = new TornPageLog();
        Check.badArgument(log, "cut -1", () -> log.cut(-1));
        Check.badArgument(log, "cut 100", () -> log.cut(100));
        Check.same("cut 99", log.cut(99), 0);
        Check.same("cut 5", log.cut(5), 99);
        puts(log, 0, 0);
        Check.same("cut 0 tells what is left", log.cut(0), 3);
        Check.same("no cut is set", log.about(11), 0);
        puts(log, 0, 0, 0, 0);
        Check.same("no power cut", log.about(10), 0);
        log.cut(1);
        log.put(1, 1);
        Check.badState(log, "cut while the power is off", () -> log.cut(0));
        Check.badArgument(log, "cut 100 while the power is off", () -> log.cut(100));
        log.start();
        Check.same("cut behind a power cut", log.cut(0), 0);
        TornPageLog inSweep = Look.loaded("F320p00000p01000p00000p00000p00000p02000p03000p04000");
        inSweep.cut(3);
        Check.same("the third operation writes its page", inSweep.put(6, 0), -2);
        Check.same("that is no sweep", inSweep.lastCut(2), 0);
        Check.same("that page", inSweep.lastCut(0), 9);
        inSweep.undo();
        inSweep.cut(2);
        Check.same("the second operation erases", inSweep.put(6, 0), -2);
        Check.same("that is a block", inSweep.lastCut(1), 1);
        Check.same("its copy is there", inSweep.newest(1), 8);
    }

    private static void start() {
        TornPageLog log = new TornPageLog();
        Check.badState(log, "start while the power is on", log::start);
        log.cut(1);
        log.put(0, 0);
        Check.same("start without keys", log.start(), 0);
        Check.same("no open block", log.about(3), -9);
        Check.same("put behind the torn page of nothing", log.put(0, 1), 4);
        Check.same("the first mark", log.page(4, 3), 1);
        puts(log, 1, 2, 3);
        log.cut(1);
        log.put(4, 0);
        Check.same("start", log.start(), 4);
        Check.same("a full block is not open behind start", log.about(3), -9);
        Check.badState(log, "start again", log::start);
        Check.same("put behind it", log.put(4, 5), 12);
        log.cut(1);
        log.put(4, 6);
        log.start();
        Check.same("a block with a clean page is open", log.about(3), 3);
        Check.same("put into it", log.put(4, 7), 14);
        Check.same("one more than the greatest mark", log.page(14, 3), 6);
        TornPageLog last = Look.loaded("F320p00000p00000p00000c01p00000");
        last.start();
        Check.same("a block whose last page is torn is not open", last.about(3), -9);
    }

    private static void startBehindErasedMarks() {
        TornPageLog log = new TornPageLog();
        puts(log, 0, 0, 1, 1);
        log.remove(1);
        log.remove(0);
        Check.same("sweep of what was removed", log.sweep(), 0);
        Check.same("nothing was copied", log.about(8), 0);
        Check.same("removals of nothing are dead", log.block(1, 1), 0);
        for (int i = 0; i < 2; i++) {
            log.cut(1);
            puts(log, 2);
            log.start();
        }
        Check.same("sweep of the removals", log.sweep(), 1);
        log.cut(1);
        puts(log, 2);
        Check.same("start with no written page", log.start(), 0);
        Check.same("put then", log.put(3, 3), 12);
        Check.same("the first mark again", log.page(12, 3), 1);
    }

    private static void setPolicy() {
        TornPageLog log = new TornPageLog();
        Check.badArgument(log, "setPolicy -1", () -> log.setPolicy(-1));
        Check.badArgument(log, "setPolicy 3", () -> log.setPolicy(3));
        Check.same("setPolicy 2", log.setPolicy(2), 0);
        Check.same("setPolicy 1", log.setPolicy(1), 2);
        log.cut(1);
        log.put(0, 0);
        Check.same("setPolicy while the power is off", log.setPolicy(0), 1);
        Check.same("the policy", log.about(12), 0);
        Check.same("setPolicy is an action", Look.remembered(log), 5);
    }

    private static void undo() {
        TornPageLog log = new TornPageLog();
        for (int i = 0; i < 20; i++) {
            log.put(1, i);
        }
        for (int i = 13; i >= 0; i--) {
            Check.same("undo", log.undo(), i);
            Check.same("value behind undo", log.get(1), i + 5);
            Check.same("puts behind undo", log.about(7) - log.about(8), i + 6);
        }
        Check.badState(log, "undo with nothing remembered", log::undo);
        log.put(1, 100);
        log.put(1, 101);
        Check.same("undo behind a new action", log.undo(), 1);
        Check.same("value then", log.get(1), 100);
        log.put(1, 102);
        Check.same("undo behind an undo and an action", log.undo(), 1);
        Check.same("the value before it", log.get(1), 100);
        log.undo();
        Check.same("the value before all of that", log.get(1), 5);
    }

    private static void undoOfEachAction() {
        String[] actions = {"q0", "c00", "d04", "w", "c01", "p04004", "s", "p04005"};
        for (int kept = 0; kept < actions.length; kept++) {
            TornPageLog log = threeVictims();
            TornPageLog due = threeVictims();
            for (int i = 0; i < actions.length; i++) {
                Check.isTrue(actions[i] + " throws nothing", !Run.on(log, actions[i]).equals("state"));
                if (i < kept) {
                    Run.on(due, actions[i]);
                }
            }
            Run.on(log, Run.times(actions.length - kept, "u"));
            Check.same("undo of all but " + kept + " actions:", Look.at(log), Look.at(due));
        }
    }
}
