/** Promises 6 to 12: what there is. */
final class LookTests {
    private LookTests() {
    }

    static void run() {
        writtenPages();
        sweptPages();
        tornPage();
        tornBlock();
        wearSpread();
        keysInOrder();
        wrongArguments();
    }

    private static void page(TornPageLog log, int address, int kind, int key, int value, int mark, int live) {
        int[] due = {kind, key, value, mark, live};
        for (int what = 0; what < due.length; what++) {
            Check.same("page " + address + ", " + what, log.page(address, what), due[what]);
        }
    }

    private static void block(TornPageLog log, int b, int... due) {
        for (int what = 0; what < due.length; what++) {
            Check.same("block " + b + ", " + what, log.block(b, what), due[what]);
        }
    }

    /** From the number "first" on. */
    private static void about(TornPageLog log, int first, int... due) {
        for (int i = 0; i < due.length; i++) {
            Check.same("about " + (first + i), log.about(first + i), due[i]);
        }
    }

    private static void lastCut(TornPageLog log, int... due) {
        for (int what = 0; what < due.length; what++) {
            Check.same("lastCut " + what, log.lastCut(what), due[what]);
        }
    }

    /** Key 3 was put twice, key 5 was put and removed; block 0 is full and open. */
    private static TornPageLog full() {
        TornPageLog log = new TornPageLog();
        log.put(3, 30);
        log.put(5, 50);
        log.put(3, 31);
        log.remove(5);
        return log;
    }

    private static void writtenPages() {
        TornPageLog log = full();
        page(log, 0, 1, 3, 30, 1, 0);
        page(log, 1, 1, 5, 50, 2, 0);
        page(log, 2, 1, 3, 31, 3, 1);
        page(log, 3, 1, 5, -9, 4, 1);
        page(log, 4, 0, -9, -9, -9, -9);
        block(log, 0, 0, 2, 0, 0, 0, 0);
        block(log, 1, 0, 0, 4, 0, 0, 0);
        about(log, 2, 1, 0, 3, 1, 4, 4, 0, 0, 0, 0, 0, 0);
        Check.same("newest of a removed key", log.newest(5), 3);
        Check.same("newest", log.newest(3), 2);
        Check.same("newest of a key that never was", log.newest(4), -9);
        Check.same("get of a removed key", log.get(5), -9);
        Check.same("get", log.get(3), 31);
        Check.same("get of a key that never was", log.get(4), -9);
    }

    private static void sweptPages() {
        TornPageLog log = full();
        log.put(1, 10);
        block(log, 0, 0, 2, 0, 0, 0, 1);
        block(log, 1, 0, 1, 3, 0, 0, 0);
        Check.same("sweep", log.sweep(), 0);
        page(log, 4, 1, 1, 10, 5, 1);
        page(log, 5, 1, 3, 31, 6, 1);
        page(log, 6, 1, 5, -9, 7, 0);
        page(log, 0, 0, -9, -9, -9, -9);
        block(log, 0, 1, 0, 4, 0, 0, 0);
        block(log, 1, 0, 2, 1, 0, 0, 0);
        about(log, 2, 1, 1, 3, 2, 8, 7, 2, 1, 0, 0, 0, 1);
        Check.same("newest of a removal that was copied", log.newest(5), 6);
    }

    private static void tornPage() {
        TornPageLog log = full();
        log.put(1, 10);
        Check.same("cut", log.cut(2), 0);
        about(log, 11, 2);
        log.put(1, 11);
        about(log, 11, 1);
        Check.same("put that is cut", log.put(1, 12), -2);
        page(log, 6, 2, -9, -9, -9, -9);
        about(log, 2, 0, -9, 2, 2, 7, 6, 0, 0, 1, 0, 0, 0);
        lastCut(log, 6, 0, 0);
        // Block 0 has dead pages, but while the power is off nothing can be a victim.
        block(log, 0, 0, 2, 0, 0, 0, 0);
        block(log, 1, 0, 1, 1, 1, 0, 0);
        page(log, 5, 1, 1, 11, 6, 1);
        Check.badState(log, "get while the power is off", () -> log.get(1));
        Check.badArgument(log, "get 16 while the power is off", () -> log.get(16));
        Check.same("keyAt while the power is off", log.keyAt(1), 3);
        Check.same("newest while the power is off", log.newest(1), 5);
        Check.same("oldest while the power is off", log.oldest(), 3);
        Check.same("start", log.start(), 2);
        about(log, 2, 1, 1, 2, 2, 7, 6, 0, 0, 1, 0, 0, 0);
        block(log, 0, 0, 2, 0, 0, 0, 1);
        Check.same("put behind a torn page", log.put(1, 13), 7);
        page(log, 7, 1, 1, 13, 7, 1);
        lastCut(log, 6, 0, 0);
    }

    private static void tornBlock() {
        TornPageLog log = Look.loaded("F301p00001p00002p00003p00004p00005");
        log.cut(2);
        block(log, 0, 0, 0, 0, 0, 0, 1);
        Check.same("sweep of a block without live pages", log.sweep(), 0);
        block(log, 0, 1, 0, 4, 0, 1, 0);
        about(log, 6, 6, 5, 0, 1, 0, 1, 0, 1);
        log.undo();
        log.cut(1);
        Check.same("sweep that is cut", log.sweep(), -2);
        lastCut(log, 0, 1, 1);
        for (int a = 0; a < 4; a++) {
            page(log, a, 2, -9, -9, -9, -9);
        }
        block(log, 0, 1, 0, 0, 4, 1, 0);
        about(log, 2, 0, -9, 1, 1, 6, 5, 0, 0, 1, 0, 0, 1);
        log.start();
        block(log, 0, 1, 0, 0, 4, 1, 0);
        about(log, 2, 1, 1, 1);
        TornPageLog other = Look.loaded("F420p00001p00002p00003p01001p02001");
        other.cut(2);
        Check.same("sweep that is cut at a copy", other.sweep(), -2);
        lastCut(other, 6, 0, 1);
        about(other, 6, 7, 6, 1, 0, 1);
        page(other, 2, 1, 0, 3, 3, 0);
        page(other, 3, 1, 1, 1, 4, 1);
        page(other, 5, 1, 0, 3, 6, 1);
    }

    private static void wearSpread() {
        TornPageLog log = Look.loaded("F320");
        for (int i = 0; i < 60; i++) {
            log.put(0, i);
            int most = Math.max(log.block(0, 0), Math.max(log.block(1, 0), log.block(2, 0)));
            int least = Math.min(log.block(0, 0), Math.min(log.block(1, 0), log.block(2, 0)));
            Check.same("about 13 behind put " + i, log.about(13), most - least);
        }
        Check.isTrue("all blocks were erased", log.block(1, 0) > 0 && log.block(2, 0) > 0);
    }

    private static void keysInOrder() {
        TornPageLog log = new TornPageLog();
        log.put(15, 0);
        log.put(0, 999);
        log.put(7, 5);
        log.remove(7);
        log.put(9, 1);
        int[] keys = {0, 9, 15, -9, -9};
        for (int i = 0; i < keys.length; i++) {
            Check.same("keyAt " + i, log.keyAt(i), keys[i]);
        }
        Check.same("keyAt greatest", log.keyAt(Integer.MAX_VALUE), -9);
        Check.same("get of the value 0", log.get(15), 0);
        Check.same("get of the value 999", log.get(0), 999);
    }

    private static void wrongArguments() {
        for (int wrong : new int[] {-1, 14, Integer.MIN_VALUE, Integer.MAX_VALUE}) {
            TornPageLog log = full();
            Check.badArgument(log, "about " + wrong, () -> log.about(wrong));
            Check.badArgument(log, "page 0, " + wrong, () -> log.page(0, wrong));
            Check.badArgument(log, "page 4, " + wrong, () -> log.page(4, wrong));
            Check.badArgument(log, "block 0, " + wrong, () -> log.block(0, wrong));
            Check.badArgument(log, "lastCut " + wrong, () -> log.lastCut(wrong));
        }
        TornPageLog log = full();
        Check.badArgument(log, "page 0, 5", () -> log.page(0, 5));
        Check.badArgument(log, "block 0, 6", () -> log.block(0, 6));
        Check.badArgument(log, "lastCut 3", () -> log.lastCut(3));
        for (int wrong : new int[] {-1, 16, Integer.MIN_VALUE, Integer.MAX_VALUE}) {
            TornPageLog other = full();
            Check.badIndex(other, "page " + wrong, () -> other.page(wrong, 0));
            Check.badIndex(other, "page with two wrong arguments", () -> other.page(wrong, 5));
            Check.badIndex(other, "block " + wrong, () -> other.block(wrong, 0));
            Check.badIndex(other, "block with two wrong arguments", () -> other.block(wrong, -1));
            Check.badArgument(other, "get " + wrong, () -> other.get(wrong));
            Check.badArgument(other, "newest " + wrong, () -> other.newest(wrong));
        }
        Check.badIndex(log, "block 4", () -> log.block(4, 0));
        Check.badArgument(log, "keyAt -1", () -> log.keyAt(-1));
        Check.badArgument(log, "keyAt least", () -> log.keyAt(Integer.MIN_VALUE));
    }
}
