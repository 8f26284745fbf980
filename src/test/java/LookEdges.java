/** Promises 6 to 12 at their edges: what there is. */
final class LookEdges {
    /** Block 0 has one live page, block 1 is full of live pages and open, block 2 is clean. */
    static final String ONE_CLEAN = "p00000 p01000 p00000 p00000 p00000 p02000 p03000 p04000";

    private LookEdges() {
    }

    static void run() {
        aboutTheChip();
        aboutTheOpenBlock();
        aboutCleanBlocks();
        aboutKeys();
        aboutOperations();
        aboutPages();
        aboutCopies();
        aboutErasedBlocks();
        aboutPowerCuts();
        aboutTheCut();
        aboutWear();
        pagesOfEachKind();
        firstAndLastPage();
        livePages();
        blockNumbers();
        wornOutBlocks();
        couldBeVictims();
        values();
        keysInOrder();
        newestPages();
        lastCuts();
    }

    private static void about(TornPageLog log, String when, int what, int due) {
        Check.same("about " + what + " " + when, log.about(what), due);
    }

    private static void aboutTheChip() {
        about(new TornPageLog(), "of a new object", 0, 4);
        about(new TornPageLog(), "of a new object", 1, 20);
        about(Run.made("F301", ""), "of the least chip", 0, 3);
        about(Run.made("F301", ""), "of the least chip", 1, 1);
        about(Run.made("F899", ""), "of the greatest chip", 0, 8);
        about(Run.made("F899", ""), "of the greatest chip", 1, 99);
        TornPageLog log = Run.made("F420", "c01");
        about(log, "before the cut", 2, 1);
        Run.on(log, "p00000");
        about(log, "behind the cut", 2, 0);
        Run.on(log, "s");
        about(log, "behind start", 2, 1);
        Run.on(log, "u");
        about(log, "when start is taken back", 2, 0);
        for (int policy = 2; policy >= 0; policy--) {
            Run.on(log, "q" + policy);
            about(log, "while the power is off", 12, policy);
        }
    }

    private static void aboutTheOpenBlock() {
        TornPageLog log = new TornPageLog();
        about(log, "before the first record", 3, -9);
        Run.on(log, "p00000");
        about(log, "behind the first record", 3, 0);
        Run.on(log, "c02 p00000 p00000");
        about(log, "while the power is off", 3, -9);
        Run.on(log, "s");
        about(log, "behind start", 3, 0);
        Run.on(log, "c01 p00000 s");
        about(log, "behind start, without a clean page", 3, -9);
        Run.on(log, "p00000");
        about(log, "behind the next record", 3, 1);
        TornPageLog last = Run.made("F820", Run.times(28, "p00000"));
        about(last, "with one block left", 3, 6);
        Run.on(last, "p00000");
        about(last, "with the last block", 3, 7);
    }

    private static void aboutCleanBlocks() {
        TornPageLog log = Run.made("F320", "");
        about(log, "of a clean chip", 4, 3);
        Run.on(log, "p00000");
        about(log, "behind one record", 4, 2);
        Run.on(log, "p00000 p00000 p00000");
        about(log, "behind four records", 4, 2);
        Run.on(log, "p00000");
        about(log, "behind five records", 4, 1);
        Run.on(log, "w");
        about(log, "behind a sweep", 4, 2);
        Run.on(log, "c01 p00000");
        about(log, "while the power is off", 4, 2);
        TornPageLog none = TermEdges.torn();
        about(none, "with none", 4, 0);
        Run.on(none, "c01 p00000");
        about(none, "with none, while the power is off", 4, 0);
        about(Run.made("F320", TermEdges.DEAD_BLOCK + " c01 w"), "with a torn block, while it is off", 4, 1);
        about(Run.made("F320", ONE_CLEAN), "with one", 4, 1);
    }

    private static void aboutKeys() {
        TornPageLog log = Run.made("F620", "");
        about(log, "without records", 5, 0);
        for (int key = 0; key < 16; key++) {
            log.put(key, 0);
            about(log, "with so many keys", 5, key + 1);
        }
        Run.on(log, "d00");
        about(log, "behind the removal of the first key", 5, 15);
        Run.on(log, "d15");
        about(log, "behind the removal of the last key", 5, 14);
        Run.on(log, "p15999");
        about(log, "behind a put of it", 5, 15);
        Run.on(log, "c01 p00000");
        about(log, "while the power is off", 5, 15);
    }

    private static void aboutOperations() {
        TornPageLog log = Run.made("F320", ONE_CLEAN);
        about(log, "behind eight puts", 6, 8);
        Run.on(log, "p05000");
        about(log, "behind a put with a sweep", 6, 11);
        Run.on(log, "q0 c09 c00 S0");
        about(log, "behind what is no operation", 6, 11);
        Run.on(log, "c01 p05000");
        about(log, "behind a put that was cut", 6, 12);
        Run.on(log, "s");
        about(log, "behind start", 6, 12);
        Run.on(log, "u u");
        about(log, "when they are taken back", 6, 11);
        TornPageLog block = Run.made("F320", TermEdges.DEAD_BLOCK + " c01 w");
        about(block, "behind an erasure that was cut", 6, 6);
    }

    private static void aboutPages() {
        TornPageLog log = Run.made("F320", "p00000 d00");
        about(log, "a removal is a page too", 7, 2);
        Run.on(log, "c01 p00000");
        about(log, "a torn page does not count", 7, 2);
        TornPageLog copies = Run.made("F320", ONE_CLEAN + " p05000");
        about(copies, "copies count", 7, 10);
        Run.on(copies, "S0");
        about(copies, "erased pages still count", 7, 10);
    }

    private static void aboutCopies() {
        about(Run.made("F320", ONE_CLEAN), "without a sweep", 8, 0);
        about(Run.made("F320", ONE_CLEAN + " p05000"), "behind a sweep in a put", 8, 1);
        about(Run.made("F320", TermEdges.DEAD_BLOCK + " w"), "of a sweep without live pages", 8, 0);
        String two = "p00000 p01000 p02000 p02000 p03000 p03000";
        about(Run.made("F320", two + " w"), "behind a sweep", 8, 3);
        about(Run.made("F320", two + " c01 w"), "behind a sweep that was cut at once", 8, 0);
        about(Run.made("F320", two + " c02 w"), "a torn copy does not count", 8, 1);
        about(Run.made("F320", two + " c04 w"), "behind a sweep that was cut at the end", 8, 3);
    }

    private static void aboutErasedBlocks() {
        about(Run.made("F320", TermEdges.DEAD_BLOCK), "before a sweep", 9, 0);
        about(Run.made("F320", TermEdges.DEAD_BLOCK + " w"), "behind a sweep", 9, 1);
        about(Run.made("F320", TermEdges.DEAD_BLOCK + " c01 w"), "what was cut does not count", 9, 0);
        about(Run.made("F320", TermEdges.DEAD_BLOCK + " c01 w s w"), "behind the sweep after it", 9, 1);
    }

    private static void aboutPowerCuts() {
        TornPageLog log = Run.made("F320", TermEdges.DEAD_BLOCK + " c05");
        about(log, "a cut that is only set", 10, 0);
        Run.on(log, "c01 w");
        about(log, "an erasure that was cut", 10, 1);
        Run.on(log, "s c01 p00000");
        about(log, "and a page", 10, 2);
        Run.on(log, "s w");
        about(log, "a sweep without a cut", 10, 2);
    }

    private static void aboutTheCut() {
        TornPageLog log = new TornPageLog();
        about(log, "without a cut", 11, 0);
        Run.on(log, "c99");
        about(log, "the latest", 11, 99);
        Run.on(log, "p00000");
        about(log, "behind one operation", 11, 98);
        Run.on(log, "q1 S0");
        about(log, "behind what is no operation", 11, 98);
        Run.on(log, "c02 p00000");
        about(log, "before the last one", 11, 1);
        Run.on(log, "p00000");
        about(log, "behind the last one", 11, 0);
        Run.on(log, "s p00000");
        about(log, "behind start", 11, 0);
        TornPageLog sweep = Run.made("F320", ONE_CLEAN + " c09 p05000");
        about(sweep, "behind three operations in one put", 11, 6);
    }

    private static void aboutWear() {
        TornPageLog log = Run.made("F320", TermEdges.DEAD_BLOCK);
        about(log, "without wear", 13, 0);
        Run.on(log, "c01 w s");
        about(log, "of a torn block", 13, 1);
        Run.on(log, "w");
        about(log, "of a block that was erased twice", 13, 2);
        TornPageLog last = Run.made("F320", Run.times(8, "p00000") + " c01 p00000");
        about(last, "when all are clean or dead", 13, 1);
        TornPageLog all = Run.made("F320", TermEdges.DEAD_BLOCK + " w " + Run.times(11, "p00000") + " w");
        Check.same("the chip", Look.chip(all).replaceAll("\\[[^\\]]*\\]", ""), "1* 1 1");
        about(all, "when all have the same wear", 13, 0);
        TornPageLog greatest = Run.made("F420", "p00000 p01000 p02000 p03000 " + Run.times(5, "p04000") + " w");
        Check.same("block 1 was erased", Look.chip(greatest).replaceAll("\\[[^\\]]*\\]", ""), "0 1 0* 0");
        about(greatest, "when a middle one has the greatest wear", 13, 1);
    }

    private static void page(TornPageLog log, int address, int... due) {
        for (int what = 0; what < 5; what++) {
            Check.same("page " + address + " " + what, log.page(address, what), due[what]);
        }
    }

    private static void pagesOfEachKind() {
        TornPageLog log = Run.made("F320", "p00000 p15999 p15998 d15 c01 p09000");
        page(log, 0, 1, 0, 0, 1, 1);
        page(log, 1, 1, 15, 999, 2, 0);
        page(log, 2, 1, 15, 998, 3, 0);
        page(log, 3, 1, 15, -9, 4, 1);
        page(log, 4, 2, -9, -9, -9, -9);
        page(log, 5, 0, -9, -9, -9, -9);
        Run.on(log, "s");
        page(log, 3, 1, 15, -9, 4, 1);
        page(log, 4, 2, -9, -9, -9, -9);
        page(log, 5, 0, -9, -9, -9, -9);
    }

    private static void firstAndLastPage() {
        for (int blocks = 3; blocks <= 8; blocks++) {
            TornPageLog log = Run.made("F" + blocks + "20", Run.times(4 * blocks - 3, "p07000"));
            page(log, 4 * blocks - 1, 0, -9, -9, -9, -9);
            Run.on(log, "p07001 p07002 p07003");
            page(log, 4 * blocks - 1, 1, 7, 3, 4 * blocks, 1);
            page(log, 0, 0, -9, -9, -9, -9);
            int behind = 4 * blocks;
            Check.badIndex(log, "page " + behind, () -> log.page(behind, 0));
            Check.badIndex(log, "page " + behind + " 4", () -> log.page(behind, 4));
            Check.badArgument(log, "the last page, -1", () -> log.page(behind - 1, -1));
            Check.badArgument(log, "the last page, 5", () -> log.page(behind - 1, 5));
        }
    }

    private static void livePages() {
        TornPageLog log = Run.made("F420", "p00000 p00001 p01000 d01");
        Check.same("live pages", Look.chip(log),
                "0*[0:0@1x 0:1@2 1:0@3x 1:d@4] 0[- - - -] 0[- - - -] 0[- - - -]");
        Run.on(log, "c01 p00002");
        Check.same("a torn page makes nothing dead", Look.chip(log),
                "0[0:0@1x 0:1@2 1:0@3x 1:d@4] 0[# - - -] 0[- - - -] 0[- - - -]");
    }

    private static void block(TornPageLog log, int b, int... due) {
        for (int what = 0; what < due.length; what++) {
            Check.same("block " + b + " " + what, log.block(b, what), due[what]);
        }
    }

    private static void blockNumbers() {
        TornPageLog log = Run.made("F820", "p00000 p01000 p01001 c01 p02000");
        block(log, 0, 0, 2, 0, 1, 0, 0);
        Run.on(log, "s");
        block(log, 0, 0, 2, 0, 1, 0, 1);
        block(log, 7, 0, 0, 4, 0, 0, 0);
        Run.on(log, "p00002 p01002");
        block(log, 0, 0, 0, 0, 1, 0, 1);
        block(log, 1, 0, 2, 2, 0, 0, 0);
        Run.on(log, "c01 w s");
        block(log, 0, 1, 0, 0, 4, 0, 1);
        Run.on(log, "w");
        block(log, 0, 2, 0, 4, 0, 0, 0);
        for (int blocks = 3; blocks <= 8; blocks++) {
            TornPageLog size = Run.made("F" + blocks + "20", "");
            int behind = blocks;
            block(size, blocks - 1, 0, 0, 4, 0, 0, 0);
            Check.badIndex(size, "block " + behind, () -> size.block(behind, 0));
            Check.badIndex(size, "block " + behind + " 5", () -> size.block(behind, 5));
            Check.badArgument(size, "the last block, -1", () -> size.block(behind - 1, -1));
            Check.badArgument(size, "the last block, 6", () -> size.block(behind - 1, 6));
        }
    }

    private static void wornOutBlocks() {
        TornPageLog log = Run.made("F302", TermEdges.DEAD_BLOCK + " c01 w");
        Check.same("one below its life, while the power is off", log.block(0, 4), 0);
        Run.on(log, "s");
        Check.same("one below its life", log.block(0, 4), 0);
        Run.on(log, "c01 w");
        Check.same("at its life, while the power is off", log.block(0, 4), 1);
        Run.on(log, "s");
        block(log, 0, 2, 0, 0, 4, 1, 0);
        block(log, 1, 0, 1, 3, 0, 0, 0);
    }

    private static void couldBeVictims() {
        TornPageLog log = Run.made("F320", ONE_CLEAN);
        block(log, 0, 0, 1, 0, 0, 0, 1);
        Check.same("the open block", log.block(1, 5), 0);
        Check.same("a clean block", log.block(2, 5), 0);
        Run.on(log, "c03 p05000");
        Check.same("while the power is off", log.block(0, 5) + log.block(1, 5) + log.block(2, 5), 0);
    }

    private static void values() {
        TornPageLog log = Run.made("F420", "p00000 p15999 p07007 d07");
        Check.same("get of the least", log.get(0), 0);
        Check.same("get of the greatest", log.get(15), 999);
        Check.same("get of a removed key", log.get(7), -9);
        Check.same("get of a key without a record", log.get(8), -9);
        Run.on(log, "p07008");
        Check.same("get of a key that was put again", log.get(7), 8);
        Run.on(log, "c01 p07009");
        for (int key = 0; key < 16; key++) {
            int k = key;
            Check.badState(log, "get " + key + " while the power is off", () -> log.get(k));
        }
        Run.on(log, "s");
        Check.same("get of what was not written", log.get(7), 8);
    }

    private static void keysInOrder() {
        TornPageLog log = Run.made("F620", "");
        Check.same("keyAt 0 without keys", log.keyAt(0), -9);
        for (int key = 15; key >= 0; key--) {
            log.put(key, key);
        }
        for (int i = 0; i < 16; i++) {
            Check.same("keyAt " + i + " of 16", log.keyAt(i), i);
        }
        Check.same("keyAt 16 of 16", log.keyAt(16), -9);
        Run.on(log, "d00 d07 d15");
        int[] keys = {1, 2, 3, 4, 5, 6, 8, 9, 10, 11, 12, 13, 14, -9};
        for (int i = 0; i < keys.length; i++) {
            Check.same("keyAt " + i + " of 13", log.keyAt(i), keys[i]);
        }
        Run.on(log, "c01 d01");
        Check.same("keyAt while the power is off", log.keyAt(0), 1);
        Check.same("keyAt behind the last one, while the power is off", log.keyAt(13), -9);
        Check.same("keyAt of the greatest number", log.keyAt(Integer.MAX_VALUE), -9);
    }

    private static void newestPages() {
        TornPageLog log = Run.made("F420", "p00000 p15000 p00001 d15");
        Check.same("newest of the first key", log.newest(0), 2);
        Check.same("newest of the last key, a removal", log.newest(15), 3);
        Check.same("newest of another key", log.newest(1), -9);
        Run.on(log, "c01 p00002");
        Check.same("newest while the power is off", log.newest(0), 2);
        Run.on(log, "s p15001");
        Check.same("newest behind a removal", log.newest(15), 8);
        TornPageLog only = Run.made("F420", "p00000");
        Check.same("newest at the address 0", only.newest(0), 0);
        TornPageLog gone = Run.made("F420", "p05000 d05 p00000 p00000 p00000 p05001 d05 p00000 p01000 w w");
        Check.same("the chip", Look.chip(gone), "1[- - - -] 1[- - - -] 0*[1:0@9 5:d@10x 0:0@11 -] 0[- - - -]");
        Check.same("newest of a removal alone", gone.newest(5), 9);
    }

    private static void lastCut(TornPageLog log, String when, int... due) {
        for (int what = 0; what < 3; what++) {
            Check.same("lastCut " + what + " " + when, log.lastCut(what), due[what]);
        }
    }

    private static void lastCuts() {
        TornPageLog log = new TornPageLog();
        lastCut(log, "without a power cut", -9, -9, -9);
        Run.on(log, "c02 p00000");
        lastCut(log, "before a power cut", -9, -9, -9);
        Run.on(log, "p00000");
        lastCut(log, "in a put", 1, 0, 0);
        Run.on(log, "s p00000 c01 d00");
        lastCut(log, "in a removal", 3, 0, 0);
        Run.on(log, "s p00000 c01 w");
        lastCut(log, "in a sweep that erases block 0", 0, 1, 1);
        Run.on(log, "s p00000 w p00000");
        lastCut(log, "later", 0, 1, 1);
        Run.on(log, "u u u u u");
        lastCut(log, "taken back", 3, 0, 0);
        Run.same(Run.made("F420", "c01 p00000"), "at the address 0", "u", "1");
        lastCut(Run.made("F420", "c01 p00000"), "at the address 0", 0, 0, 0);
        TornPageLog put = Run.made("F320", ONE_CLEAN);
        Run.on(put, "c01 p05000");
        lastCut(put, "at a copy in a put", 8, 0, 1);
        Run.on(put, "u u c02 d04");
        lastCut(put, "at an erasure in a removal", 0, 1, 1);
        Run.on(put, "u u c03 p05000");
        lastCut(put, "at the page of a put behind its sweep", 9, 0, 0);
        TornPageLog last = Run.made("F820", Run.times(31, "p00000") + " c01 p00000");
        lastCut(last, "at the last page", 31, 0, 0);
    }
}
