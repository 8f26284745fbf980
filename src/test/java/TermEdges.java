/** The terms: THE CHIP, RECORDS, WRITING A RECORD and POWER, sentence by sentence. */
final class TermEdges {
    /** Block 0 has dead pages alone, block 1 is open with one page. */
    static final String DEAD_BLOCK = Run.times(5, "p00000");

    /** Of three blocks, block 0 is torn, block 1 is full of live pages, block 2 is open with one page. */
    static final String NO_CLEAN = "p00000 p01000 p00000 p00000 p00000 p02000 p03000 p04000 c02 w s";

    private TermEdges() {
    }

    static void run() {
        everySize();
        tornUntilWornOut();
        erasedUntilWornOut();
        wornOutBlocksAreReadAndWritten();
        greatestMarkCounts();
        removalAlone();
        removalBesideTornPages();
        removalBesideRemoval();
        removalsAreCopied();
        nextPage();
        fullBlockStaysOpen();
        cleanBlockWithLeastWear();
        cleanBlockWithSmallestNumber();
        oneCleanBlockIsLeft();
        noCleanBlock();
        sweptSeveralTimes();
        copiesInTheirOrder();
        copiesIntoTheLastCleanBlock();
        copiesIntoTheLeastWornBlock();
        noRoomForLivePages();
        whatCanBeAVictim();
        cutOfEachOperation();
        cutOfTheLatest();
        onlyStartWritesOn();
        openBehindStart();
        marksBehindStart();
    }

    private static void chip(TornPageLog log, String what, String due) {
        Check.same(what, Look.chip(log), due);
    }

    private static void everySize() {
        for (int blocks = 3; blocks <= 8; blocks++) {
            String of = " of " + blocks + " blocks";
            TornPageLog log = Run.made("F" + blocks + "20", "");
            Check.same("B" + of, log.about(0), blocks);
            Check.same("clean blocks" + of, log.about(4), blocks);
            Check.same("the last page" + of, log.page(4 * blocks - 1, 0), 0);
            Check.same("the last block" + of, log.block(blocks - 1, 2), 4);
            int last = blocks;
            Check.badIndex(log, "the page behind the last" + of, () -> log.page(4 * last, 0));
            Check.badIndex(log, "the block behind the last" + of, () -> log.block(last, 0));
            for (int i = 0; i < 4 * (blocks - 1); i++) {
                Check.same("put number " + i + of, log.put(0, i), i);
                Check.same("its page" + of, log.page(i, 3), i + 1);
            }
            Check.same("one block is left" + of, log.about(4), 1);
            Check.same("the put behind them" + of, log.put(0, 0), 4 * (blocks - 1));
            Check.same("it swept" + of, log.block(0, 0), 1);
        }
    }

    /** A sweep that is cut when it erases wears the block too. */
    private static void tornUntilWornOut() {
        wearOut(Run.made("F301", DEAD_BLOCK), 1);
        wearOut(Run.made("F302", DEAD_BLOCK), 2);
        wearOut(Run.made("F399", DEAD_BLOCK), 99);
        TornPageLog log = new TornPageLog();
        Run.on(log, DEAD_BLOCK);
        wearOut(log, 20);
    }

    private static void wearOut(TornPageLog log, int life) {
        String of = " of a life of " + life;
        Check.same("L" + of, log.about(1), life);
        for (int wear = 0; wear < life; wear++) {
            // Not at each wear: what is promised of an object ends with its 512th call.
            if (wear < 2 || wear > life - 3) {
                Check.same("the wear" + of, log.block(0, 0), wear);
                Check.same("a wear of " + wear + of, log.block(0, 4), 0);
                Check.same("a victim with a wear of " + wear + of, log.block(0, 5), 1);
            }
            Run.same(log, "a sweep that is cut" + of, "c01 w s", "0 -2 1");
        }
        Check.same("the greatest wear" + of, log.block(0, 0), life);
        Check.same("worn out" + of, log.block(0, 4), 1);
        Check.same("no victim" + of, log.block(0, 5), 0);
        Check.same("victim" + of, log.victim(), -9);
        Check.same("the others are not worn out" + of, log.block(1, 4) + log.block(2, 4), 0);
        Check.same("about 13" + of, log.about(13), life);
        Check.badState(log, "sweep" + of, log::sweep);
    }

    private static void erasedUntilWornOut() {
        TornPageLog log = Run.made("F302", DEAD_BLOCK + " w");
        chip(log, "erased once", "1[- - - -] 0*[0:0@5 - - -] 0[- - - -]");
        Check.same("a block below its life", log.block(0, 4), 0);
        Run.on(log, "p00001 p00002 p00003 p00004 p00005 p00006 p00007 w p00008 p00009 p00010 p00011 p00012");
        chip(log, "before it is erased again",
                "1[0:8@13x 0:9@14x 0:10@15x 0:11@16x] 1*[0:12@17 - - -] 1[- - - -]");
        Check.same("it can be a victim", log.block(0, 5), 1);
        Run.same(log, "erases it again", "w", "0");
        Check.same("a block at its life", log.block(0, 4), 1);
        Check.same("a block that is worn out and clean", log.block(0, 5), 0);
        Run.same(log, "fills the others", "p00013 p00014 p00015 p00016 p00017 p00018 p00019", "5 6 7 8 9 10 11");
        Run.same(log, "sweeps block 1, then fills the worn out one", "p00020 p00021 p00022 p00023", "0 1 2 3");
        Run.same(log, "sweeps block 2, then fills block 1", "p00024 p00025 p00026 p00027", "4 5 6 7");
        chip(log, "all are worn out", "2[0:20@25x 0:21@26x 0:22@27x 0:23@28x]"
                + " 2*[0:24@29x 0:25@30x 0:26@31x 0:27@32] 2[- - - -]");
        Run.same(log, "no room", "p00028 w", "state state");
    }

    private static void wornOutBlocksAreReadAndWritten() {
        TornPageLog log = Run.made("F301", DEAD_BLOCK + " w p00001 p00002 p00003");
        Check.same("a worn out block is clean", log.about(4), 2);
        Run.same(log, "fills the last block", "p01004 p01005 p01006 p01007", "8 9 10 11");
        Run.same(log, "sweeps into the worn out block", "p02008", "1");
        chip(log, "a worn out block is written",
                "1*[0:3@13 2:8@14 - -] 1[- - - -] 0[1:4@9x 1:5@10x 1:6@11x 1:7@12]");
        Run.same(log, "writes it further", "p00009 p02010", "2 3");
        Run.same(log, "sweeps the last block that is not worn out", "p03011 p03012 p03013", "5 6 7");
        chip(log, "all are worn out",
                "1[0:3@13x 2:8@14x 0:9@15 2:10@16] 1*[1:7@17 3:11@18x 3:12@19x 3:13@20] 1[- - - -]");
        Check.same("a worn out block is read", log.get(0), 9);
        Check.same("dead pages of a worn out block make no victim", log.block(0, 5), 0);
        Run.same(log, "no room", "p04014", "state");
        Check.same("that can't be swept", log.whyNoRoom(), 3);
    }

    private static void greatestMarkCounts() {
        TornPageLog log = Run.made("F420", DEAD_BLOCK + " w p01000 p01000 p01000 p02000 p02000 p02000 p02000"
                + " p03000 p03000 p03000 p00006 p00007");
        chip(log, "before a sweep", "1*[1:0@17 0:7@18 - -] 1[- - - -] 0[2:0@9x 2:0@10x 2:0@11x 2:0@12]"
                + " 0[3:0@13x 3:0@14x 3:0@15 0:6@16x]");
        Run.same(log, "sweep", "w", "2");
        chip(log, "behind a sweep", "1*[1:0@17 0:7@18 2:0@19 -] 1[- - - -] 1[- - - -]"
                + " 0[3:0@13x 3:0@14x 3:0@15 0:6@16x]");
        Check.same("the greatest mark at a smaller address", log.newest(0), 1);
        Check.same("its value", log.get(0), 7);
        TornPageLog other = Run.made("F420", "p00001 p01000 p01000 p02000 p00002 p01000 w");
        chip(other, "behind another sweep", "1[- - - -] 0*[0:2@5 1:0@6 2:0@7 -] 0[- - - -] 0[- - - -]");
        TornPageLog zero = Run.made("F420", DEAD_BLOCK + " w p01000 p00001 p00002 p03000 p03000 p03000 p03000"
                + " p03000 p00003 p04000 p05000");
        Run.same(zero, "a record at the address 0, then a sweep", "p00007 w", "0 1");
        chip(zero, "the record at the address 0 is the newest", "1*[0:7@17 1:0@18 - -] 1[- - - -] 1[- - - -]"
                + " 0[3:0@13 0:3@14x 4:0@15 5:0@16]");
        Check.same("newest at the address 0", zero.newest(0), 0);
        Check.same("get of the address 0", zero.get(0), 7);
        TornPageLog third = Run.made("F420", "p00001 p01000 p02000 p03000 p04000 p04000 p04000 p00002 p04000 q2 w");
        chip(third, "a dead page is not copied", "1[- - - -]"
                + " 0[4:0@5x 4:0@6x 4:0@7x 0:2@8] 0*[4:0@9 1:0@10 2:0@11 3:0@12] 0[- - - -]");
    }

    private static void removalAlone() {
        TornPageLog log = Run.made("F420", "p05001 p06000 p06000 p06003 d05");
        chip(log, "a removal beside a page of its key",
                "0[5:1@1x 6:0@2x 6:0@3x 6:3@4] 0*[5:d@5 - - -] 0[- - - -] 0[- - - -]");
        Run.same(log, "sweeps the other page", "w", "0");
        chip(log, "a removal alone", "1[- - - -] 0*[5:d@5x 6:3@6 - -] 0[- - - -] 0[- - - -]");
        Check.same("newest of a removal alone", log.newest(5), 4);
        Check.same("get of a removal alone", log.get(5), -9);
        Check.same("live pages beside it", log.block(1, 1), 1);
        Check.same("keys", log.about(5), 1);
        Run.same(log, "a removal once more", "d05 p05004 d05", "state 6 7");
        chip(log, "two removals and a value",
                "1[- - - -] 0*[5:d@5x 6:3@6 5:4@7x 5:d@8] 0[- - - -] 0[- - - -]");
    }

    private static void removalBesideTornPages() {
        TornPageLog log = Run.made("F420", "p05001 p06000 p06000 p06003 d05 c02 w");
        chip(log, "the other page is torn", "1[# # # #] 0[5:d@5x 6:3@6 - -] 0[- - - -] 0[- - - -]");
        TornPageLog page = Run.made("F420", "p05001 c01 d05");
        chip(page, "the removal is torn", "0[5:1@1 # - -] 0[- - - -] 0[- - - -] 0[- - - -]");
        Check.same("newest of a removal that is torn", page.newest(5), 0);
    }

    private static void removalBesideRemoval() {
        TornPageLog log = Run.made("F520", "p05001 p06000 p06000 p06000 d05 w p07000 p08000 p05002 p09000 p09000"
                + " p09000 d05 w");
        chip(log, "a removal beside a removal", "1[- - - -] 0[5:d@5x 6:0@6 7:0@7 8:0@8] 1[- - - -]"
                + " 0*[5:d@13 9:0@14 - -] 0[- - - -]");
        Run.same(log, "sweeps the other removal", "w", "1");
        chip(log, "the removal alone", "1[- - - -] 1[- - - -] 1[- - - -] 0[5:d@13x 9:0@14 6:0@15 7:0@16]"
                + " 0*[8:0@17 - - -]");
    }

    private static void removalsAreCopied() {
        TornPageLog log = Run.made("F420", "p05001 p06000 p06000 p07000 d05 p06001 p07001 p05002 d05 p01000 q2 w");
        chip(log, "both other pages are elsewhere", "1[- - - -] 0[5:d@5x 6:1@6 7:1@7 5:2@8x] 0*[5:d@9 1:0@10 - -]"
                + " 0[- - - -]");
        TornPageLog own = Run.made("F420", "p05001 d05 p06000 p06001 p07000");
        Check.same("the removal of a page in its own block", own.page(1, 4), 1);
        Run.same(own, "sweep", "w", "0");
        chip(own, "it was live when the sweep began", "1[- - - -] 0*[7:0@5 5:d@6x 6:1@7 -] 0[- - - -] 0[- - - -]");
    }

    private static void nextPage() {
        TornPageLog log = Run.made("F420", "p00000 c01 p00001 s");
        Run.same(log, "behind a torn page", "p00002", "2");
        Run.same(log, "two torn pages", "c01 p00003 s p00004", "0 -2 1 4");
        chip(log, "torn pages are left out",
                "0[0:0@1x # 0:2@2x #] 0*[0:4@3 - - -] 0[- - - -] 0[- - - -]");
    }

    private static void fullBlockStaysOpen() {
        TornPageLog log = Run.made("F420", "p00000 p00000 p00000");
        Check.same("an open block with one clean page", log.about(3), 0);
        Run.on(log, "p00000");
        Check.same("an open block that is full", log.about(3), 0);
        Check.same("clean blocks beside it", log.about(4), 3);
        Check.same("it is no victim", log.block(0, 5), 0);
        Run.on(log, "p00000");
        Check.same("another one becomes the open block", log.about(3), 1);
        Check.same("the full one can be a victim", log.block(0, 5), 1);
    }

    private static void cleanBlockWithLeastWear() {
        TornPageLog log = Run.made("F320", DEAD_BLOCK + " w p00000 p00000 p00000");
        chip(log, "two clean blocks", "1[- - - -] 0*[0:0@5x 0:0@6x 0:0@7x 0:0@8] 0[- - - -]");
        Check.same("the number of clean blocks", log.about(4), 2);
        Check.same("operations with two clean blocks", log.operations(), 1);
        Run.same(log, "the least wear", "p00000", "8");
    }

    private static void cleanBlockWithSmallestNumber() {
        TornPageLog log = Run.made("F420", Run.times(9, "p00000") + " w w p00000 p00000 p00000");
        chip(log, "three clean blocks", "1[- - - -] 1[- - - -] 0*[0:0@9x 0:0@10x 0:0@11x 0:0@12] 0[- - - -]");
        Run.same(log, "the least wear, with the greatest number", "p00000", "12");
        Run.same(log, "fills it", "p00000 p00000 p00000", "13 14 15");
        Check.same("two clean blocks are left", log.about(4), 2);
        Run.same(log, "the smallest number of the same wear", "p00000", "0");
    }

    private static void oneCleanBlockIsLeft() {
        TornPageLog log = Run.made("F320", "p00000 p01000 p00000 p00000 p00000 p02000 p03000 p04000");
        Check.same("one clean block", log.about(4), 1);
        Check.same("operations with one clean block", log.operations(), 3);
        Run.same(log, "it is left to the sweep", "p05000", "9");
        chip(log, "a put that swept", "1[- - - -] 0[0:0@5 2:0@6 3:0@7 4:0@8] 0*[1:0@9 5:0@10 - -]");
        TornPageLog nothing = Run.made("F320", DEAD_BLOCK + " p00000 p00000 p00000");
        Run.same(nothing, "a sweep without copies, then there are two clean blocks", "p00000", "8");
        chip(nothing, "a put that swept nothing alive", "1[- - - -] 0[0:0@5x 0:0@6x 0:0@7x 0:0@8x] 0*[0:0@9 - - -]");
    }

    static TornPageLog torn() {
        return Run.made("F320", NO_CLEAN);
    }

    private static void noCleanBlock() {
        TornPageLog log = torn();
        chip(log, "no clean block", "1[# # # #] 0[0:0@5 2:0@6 3:0@7 4:0@8] 0*[1:0@9 - - -]");
        Check.same("the number of clean blocks", log.about(4), 0);
        Check.same("operations without a clean block", log.operations(), 1);
        Run.same(log, "the open block is written", "p02001 p03001 p04001", "9 10 11");
        chip(log, "no clean page", "1[# # # #] 0[0:0@5 2:0@6x 3:0@7x 4:0@8x] 0*[1:0@9 2:1@10 3:1@11 4:1@12]");
        Check.same("live pages that have no room", log.block(1, 5), 0);
        Check.same("no live pages", log.block(0, 5), 1);
        Check.same("operations without a clean page", log.operations(), 4);
    }

    private static void sweptSeveralTimes() {
        TornPageLog log = torn();
        Run.on(log, "p02001 p03001 p04001");
        Run.same(log, "sweeps twice", "p05005", "1");
        chip(log, "swept twice", "2*[0:0@13 5:5@14 - -] 1[- - - -] 0[1:0@9 2:1@10 3:1@11 4:1@12]");
        Check.same("copies", log.about(8), 2);
        Check.same("erased blocks", log.about(9), 2);
        TornPageLog not = torn();
        Run.on(not, "p05000 p06000 p07000");
        Check.same("one sweep is not enough", not.victim(), 0);
        Check.same("what can be swept is not enough", not.whyNoRoom(), 3);
        Run.same(not, "a put that would sweep in vain", "p05001", "state");
        Run.same(not, "a sweep all the same", "w", "0");
        Check.same("then nothing is torn or dead", not.whyNoRoom(), 2);
    }

    private static void copiesInTheirOrder() {
        TornPageLog log = Run.made("F420", "p09009 p03003 p07007 p03004 p00000");
        Run.same(log, "sweep", "w", "0");
        chip(log, "the copies are in the order of their pages, not of their keys",
                "1[- - - -] 0*[0:0@5 9:9@6 7:7@7 3:4@8] 0[- - - -] 0[- - - -]");
        Run.same(log, "the next mark behind copies", "p01001", "8");
        Check.same("that mark", log.page(8, 3), 9);
    }

    private static void copiesIntoTheLastCleanBlock() {
        TornPageLog log = Run.made("F320", "p00000 p01000 p02000 p02000 p03000 p04000 p05000");
        Run.same(log, "sweep with one clean page", "w", "0");
        chip(log, "the last clean block becomes the open one",
                "1[- - - -] 0[3:0@5 4:0@6 5:0@7 0:0@8] 0*[1:0@9 2:0@10 - -]");
        TornPageLog exact = Run.made("F320", "p00000 p02000 p02000 p02000 p03000 p04000");
        Run.same(exact, "sweep with as many clean pages as live ones", "w", "0");
        chip(exact, "the open block is full then", "1[- - - -] 0*[3:0@5 4:0@6 0:0@7 2:0@8] 0[- - - -]");
    }

    private static void copiesIntoTheLeastWornBlock() {
        TornPageLog least = Run.made("F420", "p02000 p04000 p01000 p03000 p01000 p01000 p00000 w");
        chip(least, "two clean blocks", "1[- - - -] 0[1:0@5x 1:0@6 0:0@7 2:0@8] 0*[4:0@9 3:0@10 - -] 0[- - - -]");
        Run.same(least, "sweep with two clean pages for three copies", "w", "1");
        chip(least, "the least wear", "1[- - - -] 1[- - - -] 0[4:0@9 3:0@10 1:0@11 0:0@12] 0*[2:0@13 - - -]");
        TornPageLog same = Run.made("F420", "p02000 p05000 p01000 p04000 p00000 p05000 c03 w s p00000 w");
        chip(same, "clean blocks of the same wear",
                "1[- - - -] 0[0:0@5x 5:0@6 2:0@7 1:0@8] 1[- - - -] 0*[0:0@9 4:0@10 - -]");
        Run.same(same, "sweep with two clean pages for three copies", "w", "1");
        chip(same, "the smallest number", "1*[1:0@13 - - -] 1[- - - -] 1[- - - -] 0[0:0@9 4:0@10 5:0@11 2:0@12]");
        TornPageLog none = Run.made("F420", DEAD_BLOCK + " w p01000 p02000 p00000 p03000 p03000 p03000 p03000"
                + " c01 p04000 s");
        String others = "0[0:0@5x 1:0@6 2:0@7 0:0@8] 0[3:0@9x 3:0@10x 3:0@11x 3:0@12] ";
        chip(none, "no block is open", "1[- - - -] " + others + "0[# - - -]");
        Run.same(none, "no copies, and no block becomes the open one", "w", "3");
        chip(none, "still no block is open", "1[- - - -] " + others + "1[- - - -]");
        Run.same(none, "a copy without an open block", "w", "2");
        chip(none, "the smallest number becomes the open one",
                "1*[3:0@13 - - -] 0[0:0@5x 1:0@6 2:0@7 0:0@8] 1[- - - -] 1[- - - -]");
    }

    private static void noRoomForLivePages() {
        TornPageLog log = Run.made("F320", "p00000 p01000 p00000 p00000 p00000 p02000 p02000 p03000 c02 w s");
        chip(log, "three live pages, three clean ones", "1[# # # #] 0[0:0@5 2:0@6x 2:0@7 3:0@8] 0*[1:0@9 - - -]");
        Check.same("as many clean pages as live ones", log.block(1, 5), 1);
        Run.on(log, "p09000");
        Check.same("one clean page too few", log.block(1, 5), 0);
        Run.on(log, "w");
        Check.same("a clean block is room for four more", log.block(1, 5), 1);
        // The record that a cut leaves in block 1 is the newest one, but there is no clean page behind it.
        TornPageLog none = Run.made("F320", "p00000 p00000 p01000 p01000 p02000 p02000 p03000 c01 p03000 s"
                + " c01 p04000 s");
        chip(none, "no block is open, none is clean",
                "0[0:0@1x 0:0@2 1:0@3x 1:0@4] 0[2:0@5x 2:0@6 3:0@7 #] 0[# - - -]");
        Check.same("live pages want room", none.block(0, 5) + none.block(1, 5), 0);
        Check.same("no live pages want none", none.block(2, 5), 1);
        Run.same(none, "sweep", "w", "2");
        Check.same("then there is room for both", none.block(0, 5) + none.block(1, 5), 2);
    }

    private static void whatCanBeAVictim() {
        TornPageLog log = Run.made("F520", "p00000 p01000 p02000 p03000 p04000 p04000 p05000 c01 p06000 s p07000");
        chip(log, "blocks of each kind", "0[0:0@1 1:0@2 2:0@3 3:0@4] 0[4:0@5x 4:0@6 5:0@7 #] 0*[7:0@8 - - -]"
                + " 0[- - - -] 0[- - - -]");
        int[] can = {0, 1, 0, 0, 0};
        for (int b = 0; b < can.length; b++) {
            Check.same("block " + b + " can be a victim", log.block(b, 5), can[b]);
        }
        Run.on(log, "p00001");
        Check.same("a block with a dead page", log.block(0, 5), 1);
        TornPageLog page = Run.made("F420", "c01 p00000 s");
        Check.same("a block with a torn page and clean ones", page.block(0, 5), 1);
        Run.same(page, "it can be swept", "w", "0");
        TornPageLog open = Run.made("F420", "p00000 p00000 c01 p00000 s");
        Check.same("torn and dead pages of the open block", open.block(0, 5), 0);
    }

    private static void cutOfEachOperation() {
        String puts = "p00000 p01000 p00000 p00000 p00000 p02000 p03000 p04000";
        String rest = "0[0:0@5 2:0@6 3:0@7 4:0@8] ";
        String[] due = {"0[0:0@1x 1:0@2 0:0@3x 0:0@4x] " + rest + "0[# - - -]",
            "1[# # # #] " + rest + "0[1:0@9 - - -]", "1[- - - -] " + rest + "0[1:0@9 # - -]"};
        int[][] cut = {{8, 0, 1}, {0, 1, 1}, {9, 0, 0}};
        for (int n = 1; n <= 3; n++) {
            TornPageLog log = Run.made("F320", puts + " c0" + n);
            Run.same(log, "cut on operation " + n, "p05000", "-2");
            chip(log, "what it leaves, " + n, due[n - 1]);
            for (int what = 0; what < 3; what++) {
                Check.same("where it fell, " + n + " " + what, log.lastCut(what), cut[n - 1][what]);
            }
            int[] about = {8 + n, n == 1 ? 8 : 9, n == 1 ? 0 : 1, n == 3 ? 1 : 0, 1, 0};
            for (int what = 6; what <= 11; what++) {
                Check.same("what it counts, " + n + " " + what, log.about(what), about[what - 6]);
            }
            Check.same("the power, " + n, log.about(2), 0);
            Check.same("no record was put, " + n, log.newest(5), -9);
        }
        TornPageLog behind = Run.made("F320", puts + " c04");
        Run.same(behind, "cut behind the last operation", "p05000", "9");
        Check.same("what is left of it", behind.about(11), 1);
        Run.same(behind, "it falls on the next put", "p05000", "-2");
    }

    private static void cutOfTheLatest() {
        TornPageLog log = Run.made("F320", "c99");
        int puts = 0;
        while (puts < 99 && log.put(0, 0) != -2) {
            puts++;
        }
        Check.same("the cut falls on operation 99", log.about(6), 99);
        Check.same("it is off then", log.about(2), 0);
        Check.same("erased, written and cut", log.about(9) + log.about(7) + log.about(10), 99);
        Check.same("no cut is set behind it", log.about(11), 0);
        TornPageLog again = Run.made("F420", "c05 p00000 c01");
        Check.same("a cut that is set anew", again.about(11), 1);
        Run.same(again, "falls when it was set anew", "p00000 s p00000 p00000 p00000", "-2 1 2 3 4");
    }

    private static void onlyStartWritesOn() {
        TornPageLog log = Run.made("F420", DEAD_BLOCK + " p01010 q1 c03 p02020 w");
        String off = "1[# # # #] 0[0:0@5 1:10@6 2:20@7 -] 0[- - - -] 0[- - - -]";
        TornPageLog cut = Run.made("F420", DEAD_BLOCK + " p01010 q1 c02 p02020 w");
        chip(cut, "off", off);
        Run.same(cut, "nothing is written", "p00000 d00 w c00 c01", "state state state state state");
        chip(cut, "off as before", off);
        Check.same("whyNoRoom", cut.whyNoRoom(), 1);
        Check.same("victim", cut.victim(), -9);
        Check.same("lasts", cut.lasts(0), 0);
        Check.same("oldest", cut.oldest(), 0);
        Check.same("keyAt", cut.keyAt(2), 2);
        Check.same("newest", cut.newest(2), 6);
        Check.same("blocks with 4 clean pages", cut.about(4), 2);
        Check.same("keys", cut.about(5), 3);
        Check.same("no open block", cut.about(3), -9);
        Check.same("live pages", cut.block(1, 1), 3);
        Check.same("no block could be a victim", cut.block(0, 5), 0);
        Run.same(cut, "policies, slots and undo", "q2 q1 S0 u u", "1 2 3 11 10");
        chip(cut, "still off", off);
        Run.same(cut, "on again", "s p03000", "3 7");
        chip(log, "the sweep was not cut", "1[- - - -] 0*[0:0@5 1:10@6 2:20@7 -] 0[- - - -] 0[- - - -]");
    }

    private static void openBehindStart() {
        openBehind("c01 p00000 s", -9);
        openBehind("p00000 c01 p00000 s", 0);
        openBehind("p00000 p00000 c01 p00000 s", 0);
        openBehind("p00000 p00000 p00000 c01 p00000 s", -9);
        openBehind("p00000 p00000 p00000 p00000 c01 p00000 s", -9);
        openBehind("p00000 p00000 p00000 p00000 p00000 c01 p00000 s", 1);
        // The sweep copies nothing: what it tears is not the block with the greatest mark.
        openBehind(DEAD_BLOCK + " c01 w s", 1);
        // The copy is the page with the greatest mark; of three clean pages one is torn.
        openBehind("p00000 p01000 p00000 p00000 p00000 c02 w s", 1);
        openBehind("p00000 p01000 p00000 p00000 p00000 c01 w s", 1);
        // Block 0 is written a second time, and has the greatest mark then.
        openBehind(Run.times(9, "p00000") + " w w " + Run.times(8, "p00000") + " c01 p00000 s", 0);
    }

    private static void openBehind(String calls, int due) {
        TornPageLog log = Run.made("F420", calls);
        Check.same("the open block behind " + calls, log.about(3), due);
    }

    private static void marksBehindStart() {
        TornPageLog log = Run.made("F420", "p00000 c01 p00000 s p00001");
        Check.same("a torn page takes no mark", log.page(2, 3), 2);
        TornPageLog first = Run.made("F420", "c01 p00000 s p00001");
        Check.same("the first mark behind a torn page", first.page(4, 3), 1);
        TornPageLog cut = Run.made("F420", DEAD_BLOCK + " c01 w s p00001");
        Check.same("a block that is torn takes no mark", cut.page(5, 3), 6);
        // The greatest marks are those of two removals alone; they are erased.
        TornPageLog erased = Run.made("F420", "p01001 p00000 p00000 p00000 p02002 p02002 p02002 d00 c01 p03003 s");
        chip(erased, "a removal has the greatest mark", "0[1:1@1 0:0@2x 0:0@3x 0:0@4x] 0[2:2@5x 2:2@6x 2:2@7 0:d@8]"
                + " 0[# - - -] 0[- - - -]");
        Run.same(erased, "erases the torn page, then what was removed", "w w", "2 0");
        chip(erased, "the removal alone", "1[- - - -] 0[2:2@5x 2:2@6x 2:2@7 0:d@8x] 1[- - - -] 0*[1:1@9 - - -]");
    }
}
