/** Promises 20 to 25: what would be. */
final class WhatIfTests {
    private WhatIfTests() {
    }

    static void run() {
        victim();
        whyNoRoom();
        operations();
        afterCut();
        lasts();
        oldest();
        changeNothing();
    }

    private static void puts(TornPageLog log, int... keys) {
        for (int key : keys) {
            log.put(key, 0);
        }
    }

    /** Of block 0 the key 1 is live, block 1 is full of live keys and open, block 2 is clean. */
    private static TornPageLog sweepsNext() {
        TornPageLog log = Look.loaded("F320");
        puts(log, 0, 1, 0, 0);
        log.put(0, 7);
        puts(log, 2, 3, 4);
        return log;
    }

    private static void victim() {
        TornPageLog log = new TornPageLog();
        puts(log, 0, 0, 0, 0);
        Check.same("the open block is no victim", log.victim(), -9);
        puts(log, 0);
        Check.same("victim", log.victim(), 0);
        log.cut(1);
        log.put(0, 0);
        Check.same("no victim while the power is off", log.victim(), -9);
        log.start();
        Check.same("victim behind start", log.victim(), 0);
        wornOutVictims();
        tightVictims();
    }

    private static void wornOutVictims() {
        TornPageLog log = Look.loaded("F301p00000p00000p00000p00000p00000w");
        puts(log, 0, 0, 0, 0, 1, 1, 1);
        Check.same("a clean block is no victim", log.block(0, 5), 0);
        Check.same("a victim beside a worn out block", log.victim(), 1);
        log.sweep();
        Check.same("a worn out block is written", log.put(1, 0), 0);
        Check.same("the last block that is not worn out", log.sweep(), 2);
        puts(log, 1, 1, 1);
        Check.same("a dead page in a worn out block", log.page(0, 4), 0);
        Check.same("a block is worn out", log.block(0, 4), 1);
        Check.same("worn out blocks can't be victims", log.block(0, 5), 0);
        Check.same("worn out blocks are no victims", log.victim(), -9);
    }

    /** The live pages of a block want room in the open block if no block is clean. */
    private static void tightVictims() {
        TornPageLog log = Look.loaded("F320p00000p01000p00000p00000p00000p02000p02000p03000c02ws");
        Check.same("no block is clean", log.about(4), 0);
        Check.same("live pages", log.block(1, 1), 3);
        Check.same("clean pages of the open block", log.block(2, 2), 3);
        Check.same("as many clean pages as live pages", log.block(1, 5), 1);
        puts(log, 9);
        Check.same("fewer clean pages than live pages", log.block(1, 5), 0);
        Check.same("no live pages want no room", log.block(0, 5), 1);
        Check.same("the victim then", log.victim(), 0);
        log.sweep();
        Check.same("a clean block is room for 4 more", log.block(1, 5), 1);
    }

    private static void whyNoRoom() {
        TornPageLog log = new TornPageLog();
        Check.same("room", log.whyNoRoom(), 0);
        puts(log, 0, 1, 2, 3, 4, 5, 6, 7, 8, 9, 10);
        Check.same("room in the open block", log.whyNoRoom(), 0);
        puts(log, 11);
        Check.same("nothing is torn or dead", log.whyNoRoom(), 2);
        TornPageLog open = new TornPageLog();
        puts(open, 0, 1, 2, 3, 4, 5, 6, 7, 8, 8, 8, 8);
        Check.same("nothing but in the open block is dead", open.whyNoRoom(), 2);
        open.save(0);
        TornPageLog dead = new TornPageLog();
        puts(dead, 0, 1, 2, 3, 4, 5, 6, 7, 0, 8, 9, 10);
        Check.same("a sweep makes room", dead.whyNoRoom(), 0);
        dead.cut(1);
        Check.same("a cut that is set makes no difference", dead.whyNoRoom(), 0);
        dead.put(0, 0);
        Check.same("the power is off", dead.whyNoRoom(), 1);
        TornPageLog worn = Look.loaded("F301");
        for (int i = 0; i < 20; i++) {
            Check.same("room before put " + i, worn.whyNoRoom(), 0);
            worn.put(0, i);
        }
        Check.same("what is worn out can't be swept", worn.whyNoRoom(), 3);
        Check.badState(worn, "put into what is worn out", () -> worn.put(0, 0));
    }

    private static void operations() {
        TornPageLog log = new TornPageLog();
        Check.same("operations of a put", log.operations(), 1);
        TornPageLog sweeps = sweepsNext();
        Check.same("a copy, an erasure and the page", sweeps.operations(), 3);
        sweeps.cut(1);
        Check.same("a cut makes no difference", sweeps.operations(), 3);
        int before = sweeps.about(6);
        sweeps.cut(0);
        sweeps.put(9, 9);
        Check.same("so many were done", sweeps.about(6) - before, 3);
        sweeps.cut(1);
        sweeps.put(0, 0);
        Check.badState(sweeps, "operations while the power is off", sweeps::operations);
        TornPageLog full = new TornPageLog();
        puts(full, 0, 1, 2, 3, 4, 5, 6, 7, 8, 9, 10, 11);
        Check.badState(full, "operations with no room", full::operations);
    }

    private static void afterCut() {
        TornPageLog log = sweepsNext();
        int[] due = {7, 7, 7, 99, 99};
        for (int n = 1; n <= due.length; n++) {
            Check.same("afterCut " + n, log.afterCut(0, 99, n), due[n - 1]);
            Check.same("afterCut " + n + " of a new key", log.afterCut(9, 99, n), n <= 3 ? -9 : 99);
        }
        log.cut(1);
        Check.same("afterCut takes its own cut", log.afterCut(0, 99, 99), 99);
        for (int wrong : new int[] {-1, 16, 1000}) {
            Check.badArgument(log, "afterCut with a wrong key", () -> log.afterCut(wrong, 0, 1));
        }
        Check.badArgument(log, "afterCut of -1", () -> log.afterCut(0, -1, 1));
        Check.badArgument(log, "afterCut of 1000", () -> log.afterCut(0, 1000, 1));
        Check.badArgument(log, "afterCut at 0", () -> log.afterCut(0, 0, 0));
        Check.badArgument(log, "afterCut at 100", () -> log.afterCut(0, 0, 100));
        log.put(0, 0);
        Check.badState(log, "afterCut while the power is off", () -> log.afterCut(0, 0, 1));
        Check.badArgument(log, "afterCut at 0 while the power is off", () -> log.afterCut(0, 0, 0));
    }

    private static void lasts() {
        Check.same("lasts of a new object", new TornPageLog().lasts(0), 300);
        TornPageLog log = Look.loaded("F301");
        // 12 pages, then blocks 0, 1 of 4 pages each, once more; block 2 is left clean.
        Check.same("lasts with a life of 1", log.lasts(0), 20);
        log.cut(1);
        Check.same("lasts knows no cut", log.lasts(0), 20);
        log.put(0, 0);
        Check.same("lasts while the power is off", log.lasts(0), 0);
        Check.badArgument(log, "lasts -1", () -> log.lasts(-1));
        Check.badArgument(log, "lasts 16", () -> log.lasts(16));
        TornPageLog full = new TornPageLog();
        puts(full, 0, 1, 2, 3, 4, 5, 6, 7, 8, 9, 10, 11);
        Check.same("lasts with no room", full.lasts(0), 0);
        full.undo();
        Check.same("lasts with one page of room", full.lasts(14), 1);
        for (int key = 0; key < 16; key++) {
            TornPageLog some = Look.loaded("F402p01111p02222p01333p05111d02");
            int lasts = some.lasts(key);
            int puts = 0;
            while (puts < 300 && some.whyNoRoom() == 0) {
                some.put(key, 0);
                puts++;
            }
            Check.same("lasts " + key, lasts, puts);
        }
    }

    private static void oldest() {
        TornPageLog log = new TornPageLog();
        puts(log, 7, 3, 5);
        Check.same("oldest", log.oldest(), 7);
        puts(log, 7);
        Check.same("oldest behind a put", log.oldest(), 3);
        log.remove(3);
        Check.same("oldest behind a removal", log.oldest(), 5);
        puts(log, 9);
        log.sweep();
        Check.same("a copy has a new mark", log.oldest(), 9);
        log.remove(5);
        log.remove(7);
        log.remove(9);
        Check.same("oldest of no keys", log.oldest(), -9);
    }

    private static void changeNothing() {
        TornPageLog log = sweepsNext();
        log.cut(9);
        String before = Look.at(log);
        log.victim();
        log.whyNoRoom();
        log.operations();
        log.afterCut(3, 3, 1);
        log.lasts(3);
        log.oldest();
        log.runScript(4, 1399300010019002L);
        log.simulate(5, 99);
        Check.same("questions change nothing:", Look.at(log), before);
        Check.same("questions are no actions", Look.remembered(log), 9);
    }
}
