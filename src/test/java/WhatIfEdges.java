/** Promises 20 to 25 at their edges: what would be. */
final class WhatIfEdges {
    private WhatIfEdges() {
    }

    static void run() {
        victims();
        roomOfEachKind();
        nothingTornOrDead();
        notEnoughToSweep();
        firstReasonThatApplies();
        operationsOfEachNumber();
        operationsAreThoseOfPutAndRemove();
        afterCutOfEachOperation();
        afterCutOfOtherRecords();
        afterCutOfRemovedKeys();
        afterCutTakesItsOwnCut();
        lastsAtMost300();
        lastsOfEachLife();
        lastsOfEachPolicy();
        lastsWithoutRoom();
        oldestOfEachKey();
        oldestBehindCopies();
        questionsChangeNothing();
    }

    /** No clean block, the open one is full, block 0 is torn and block 1 has so many live pages. */
    private static TornPageLog sixOperations(int live) {
        String[] puts = {"p05000 p06000 p07000", "p03001 p06000 p07000", "p03001 p02001 p07000"};
        return Run.made("F320", "p00000 p01000 p00000 p00000 p00000 p02000 p02000 p03000 c02 w s " + puts[3 - live]);
    }

    private static void victim(TornPageLog log, String what, int due) {
        Check.same("victim " + what, log.victim(), due);
        String answer = Run.on(log, "w");
        Check.same("sweep " + what, answer, due == -9 ? "state" : "" + due);
    }

    private static void victims() {
        victim(new TornPageLog(), "of a clean chip", -9);
        victim(Run.made("F420", "p00000 p00000"), "of an open block", -9);
        victim(Run.made("F420", "p00000 p01000 p02000 p03000 p04000"), "of live pages", -9);
        victim(Run.made("F420", TermEdges.DEAD_BLOCK), "of a dead block", 0);
        victim(Run.made("F420", "p00000 p01000 p02000 p03000 " + Run.times(5, "p04000")), "of the next block", 1);
        victim(Run.made("F420", TermEdges.DEAD_BLOCK + " c01 w"), "while the power is off", -9);
        victim(Run.made("F420", TermEdges.DEAD_BLOCK + " c01 w s"), "of a torn block", 0);
        victim(Run.made("F401", TermEdges.DEAD_BLOCK + " c01 w s"), "of a torn block that is worn out", -9);
        victim(Run.made("F402", TermEdges.DEAD_BLOCK + " c01 w s"), "of a torn block one below its life", 0);
        victim(Run.made("F420", "c01 p00000 s"), "of one torn page", 0);
        TornPageLog swept = Run.made("F320", TermEdges.DEAD_BLOCK + " c02");
        Check.same("victim changes nothing", swept.victim() + swept.victim() + swept.about(9), 0);
        victim(sixOperations(3), "without a clean page", 0);
    }

    private static void why(TornPageLog log, String what, int due) {
        Check.same("whyNoRoom " + what, log.whyNoRoom(), due);
        Check.same("operations " + what, Run.shortAnswer(log::operations).equals("state") ? 0 : 1, due == 0 ? 1 : 0);
        for (int key = 0; key < 16; key += 5) {
            int k = key;
            if (due != 0) {
                Check.badState(log, "put " + what, () -> log.put(k, 0));
                Check.badState(log, "remove " + what, () -> log.remove(k));
                Check.badState(log, "afterCut " + what, () -> log.afterCut(k, 0, 1));
                Check.same("lasts " + what, log.lasts(k), 0);
            } else {
                Check.isTrue("lasts " + what, log.lasts(k) > 0);
            }
        }
        if (due == 0) {
            Run.on(log, "c00");
            Check.isTrue("put " + what, !Run.on(log, "p00000").equals("state"));
        }
    }

    private static void roomOfEachKind() {
        why(new TornPageLog(), "of a clean chip", 0);
        why(Run.made("F320", "p00000 p01000 p02000 p03000 p04000 p05000 p06000"), "with one clean page", 0);
        why(Run.made("F320", "p00000 p01000 p02000 p03000"), "with two clean blocks", 0);
        why(Run.made("F320", "p00000 p01000 p02000 p02000 p04000 p05000 p06000 p07000"), "with one dead page", 0);
        why(Run.made("F320", "p00000 p01000 p02000 c01 p03000 s p04000 p05000 p06000 p07000"), "with a torn page", 0);
        why(TermEdges.torn(), "with no clean block", 0);
        why(sixOperations(3), "with no clean page", 0);
        why(Run.made("F320", "c01"), "with a cut that is set", 0);
        why(Run.made("F320", LookEdges.ONE_CLEAN + " c01"), "with a cut that is set for a sweep", 0);
        why(Run.made("F301", TermEdges.DEAD_BLOCK + " w"), "in a worn out block", 0);
    }

    private static void nothingTornOrDead() {
        why(Run.made("F320", "p00000 p01000 p02000 p03000 p04000 p05000 p06000 p07000"), "with live pages alone", 2);
        why(Run.made("F320", "p00000 p01000 p02000 p03000 p04000 p04000 p04000 p04000"), "with a dead open block", 2);
        why(Run.made("F320", "p00000 p01000 p02000 p03000 p04000 p04000 p04000 p04000 c01"), "and a cut", 2);
        TornPageLog removed = Run.made("F320", "p00000 p01000 p02000 p03000 p04000 d04 p05000 d05");
        why(removed, "with removals in the open block", 2);
        TornPageLog none = Run.made("F320", "p00000 p01000 p00000 p00000 p00000 p02000 p03000 p04000 c02 w s p05000"
                + " p06000 p07000 w");
        Check.same("no page is torn or dead", Look.chip(none).replaceAll("[^#x]", ""), "");
        why(none, "behind the sweep of all that was torn", 2);
    }

    private static void notEnoughToSweep() {
        TornPageLog vain = TermEdges.torn();
        Run.on(vain, "p05000 p06000 p07000");
        Check.same("a block can be swept", vain.victim(), 0);
        why(vain, "when one sweep is not enough", 3);
        TornPageLog worn = Run.made("F301", Run.times(20, "p00000"));
        Check.same("no block can be swept", worn.victim(), -9);
        why(worn, "when all are worn out", 3);
        TornPageLog torn = Run.made("F301", TermEdges.DEAD_BLOCK + " c01 w s p00000 p00000 p00000");
        Check.same("a torn block is worn out", torn.block(0, 3) + torn.block(0, 4), 5);
        why(torn, "when what is torn is worn out", 3);
        // Block 1 has dead pages, but there is no page to which its live one could be copied.
        TornPageLog tight = Run.made("F301", "p00000 p01000 p00000 p00000 p00000 p02000 p03000 p04000 c02 w s p02001"
                + " p03001 p04001");
        Check.same("dead pages in a block that is not worn out", tight.block(1, 1) + tight.block(1, 4), 1);
        why(tight, "when there is no room for live pages", 3);
        TornPageLog live = sixOperations(3);
        Run.on(live, "w");
        Check.same("one clean block, three live pages", live.about(4) + live.block(1, 1), 4);
        why(live, "when there is room for the copies", 0);
    }

    private static void firstReasonThatApplies() {
        why(Run.made("F320", "c01 p00000"), "while the power is off", 1);
        why(Run.made("F320", "p00000 c01 p01000"), "while it is off, with live pages alone", 1);
        why(Run.made("F320", "p00000 p01000 p02000 p03000 p04000 p05000 p06000 c01 p07000"), "off, without room", 1);
        why(Run.made("F301", TermEdges.DEAD_BLOCK + " c01 w"), "off, with what is worn out", 1);
        TornPageLog on = Run.made("F320", "p00000 p01000 p02000 p03000 p04000 p05000 p06000 c01 p07000 s");
        Check.same("a torn page behind start", on.page(7, 0), 2);
        why(on, "on again", 0);
    }

    private static void operations(TornPageLog log, String what, int due) {
        Check.same("operations " + what, log.operations(), due);
        Run.on(log, "c99");
        Check.same("operations with a cut, " + what, log.operations(), due);
        Run.on(log, "c01");
        Check.same("operations with a cut of the first, " + what, log.operations(), due);
        Run.on(log, "c00");
        int before = log.about(6);
        log.put(15, 999);
        Check.same("the operations of put " + what, log.about(6) - before, due);
    }

    private static void operationsOfEachNumber() {
        operations(new TornPageLog(), "of a clean chip", 1);
        operations(Run.made("F320", "p00000 p00000 p00000"), "with one clean page", 1);
        operations(Run.made("F320", Run.times(4, "p00000")), "with two clean blocks", 1);
        operations(Run.made("F320", Run.times(8, "p00000")), "with one clean block and no copy", 2);
        operations(Run.made("F320", LookEdges.ONE_CLEAN), "with one clean block and one copy", 3);
        operations(Run.made("F320", "p00000 p01000 p00000 p01000 p00000 p02000 p03000 p04000"), "with one copy", 3);
        operations(Run.made("F320", "p00000 p01000 p02000 p00000 p00000 p03000 p04000 p05000"), "with two copies", 4);
        operations(Run.made("F320", "p00000 p01000 p02000 p03000 p00000 p04000 p05000 p06000"), "with three copies", 5);
        operations(TermEdges.torn(), "with no clean block", 1);
        TornPageLog two = TermEdges.torn();
        Run.on(two, "p02001 p03001 p04001");
        operations(two, "with no clean page, and one copy", 4);
        operations(sixOperations(2), "with no clean page, and two copies", 4 + 1);
        operations(sixOperations(3), "with no clean page, and three copies", 6);
    }

    private static void operationsAreThoseOfPutAndRemove() {
        for (String calls : new String[] {"p00000", LookEdges.ONE_CLEAN, Run.times(8, "p00000")}) {
            TornPageLog log = Run.made("F320", calls);
            int due = log.operations();
            int before = log.about(6);
            Run.on(log, "d00");
            Check.same("the operations of remove behind " + calls, log.about(6) - before, due);
            Run.on(log, "u");
            for (int key = 0; key < 16; key++) {
                log.put(key, key);
                Check.same("the operations of put " + key + " behind " + calls, log.about(6) - before, due);
                Run.on(log, "u");
            }
        }
    }

    private static void afterCutOfEachOperation() {
        TornPageLog one = Run.made("F320", "p00007");
        after(one, 0, 8, 1, 7, 8);
        after(one, 1, 8, 1, -9, 8);
        TornPageLog two = Run.made("F320", Run.times(4, "p00007"));
        Check.same("two clean blocks", two.about(4), 2);
        after(two, 0, 8, 1, 7, 8);
        TornPageLog three = Run.made("F320", "p00000 p01007 p00000 p00000 p00000 p02000 p03000 p04000");
        after(three, 1, 8, 3, 7, 8);
        after(three, 15, 999, 3, -9, 999);
        after(three, 2, 0, 3, 0, 0);
        TornPageLog six = sixOperations(3);
        after(six, 2, 8, 6, 0, 8);
        after(six, 5, 8, 6, 0, 8);
        after(six, 15, 8, 6, -9, 8);
    }

    /** The least and the greatest cut, and those round the last operation. */
    private static void after(TornPageLog log, int key, int value, int operations, int old, int due) {
        for (int n = 1; n <= operations + 2; n++) {
            Check.same("afterCut " + key + " " + value + " " + n, log.afterCut(key, value, n),
                    n <= operations ? old : due);
        }
        Check.same("afterCut " + key + " " + value + " 99", log.afterCut(key, value, 99), due);
        Check.badArgument(log, "afterCut at 0", () -> log.afterCut(key, value, 0));
        Check.badArgument(log, "afterCut at 100", () -> log.afterCut(key, value, 100));
        Check.badArgument(log, "afterCut of -1", () -> log.afterCut(key, -1, 1));
        Check.badArgument(log, "afterCut of 1000", () -> log.afterCut(key, 1000, 1));
    }

    private static void afterCutOfOtherRecords() {
        for (int key = 0; key < 5; key++) {
            for (int n = 1; n <= 5; n++) {
                TornPageLog log = Run.made("F320", "p00000 p01011 p00000 p00000 p00010 p02012 p03013 p04014");
                int told = log.afterCut(key, 99, n);
                log.cut(n);
                int answer = log.put(key, 99);
                if (log.about(2) == 0) {
                    log.start();
                }
                Check.same("get behind the cut " + n + " of put " + key, log.get(key), told);
                Check.same("the put of " + key + " is cut by " + n, answer == -2 ? 10 + key : 99, told);
            }
        }
    }

    private static void afterCutOfRemovedKeys() {
        TornPageLog log = Run.made("F320", "p05001 p06000 p06000 d05 p06001 p07000 p08000 p09000");
        Check.same("operations", log.operations(), 3);
        after(log, 5, 3, 3, -9, 3);
        TornPageLog alone = Run.made("F420", "p05001 p06000 p06000 p06003 d05 w");
        Check.same("a removal alone", alone.page(4, 4), 0);
        after(alone, 5, 3, 1, -9, 3);
    }

    private static void afterCutTakesItsOwnCut() {
        TornPageLog log = Run.made("F320", "p00007 c01");
        after(log, 0, 8, 1, 7, 8);
        Check.same("the cut is still set", log.about(11), 1);
        Run.same(log, "and falls", "p00008", "-2");
        Run.same(log, "it is taken back", "u u", "2 1");
        after(log, 0, 8, 1, 7, 8);
        TornPageLog later = Run.made("F320", LookEdges.ONE_CLEAN + " c99");
        after(later, 1, 8, 3, 0, 8);
        Check.same("the later cut is still set", later.about(11), 99);
    }

    private static void lastsAtMost300() {
        // 4 blocks of 4 pages, each erased 18 times; the last clean block is left.
        for (int key = 0; key < 16; key += 15) {
            Check.same("lasts of a life of 17", Run.made("F417", "").lasts(key), 284);
            TornPageLog log = Run.made("F418", "");
            Check.same("lasts of a life of 18", log.lasts(key), 300);
            for (int i = 1; i <= 20; i++) {
                log.put(key, 0);
                Check.same("lasts behind so many puts: " + i, log.lasts(key), 300 - i);
            }
            TornPageLog longer = Run.made("F419", "");
            for (int i = 0; i <= 20; i++) {
                Check.same("lasts of a life of 19 behind puts: " + i, longer.lasts(key), Math.min(300, 316 - i));
                longer.put(key, 0);
            }
            Check.same("lasts of the greatest chip", Run.made("F899", "").lasts(key), 300);
        }
    }

    private static void lastsOfEachLife() {
        for (int life = 1; life <= 24; life++) {
            TornPageLog log = Run.made("F3" + (life < 10 ? "0" : "") + life, "");
            Check.same("lasts of 3 blocks with a life of " + life, log.lasts(7), 12 * life + 8);
        }
        TornPageLog log = Run.made("F302", "p00001 p01002 p02003 c03");
        int due = log.lasts(1);
        Run.on(log, "c00");
        for (int puts = 0; puts < due; puts++) {
            Check.same("lasts is one less behind each put", log.lasts(1), due - puts);
            Run.on(log, "p01000");
        }
        Check.same("there is no room behind the last one", log.lasts(1), 0);
        Check.same("whyNoRoom behind the last one", log.whyNoRoom(), 3);
    }

    private static void lastsOfEachPolicy() {
        for (int policy = 0; policy < 3; policy++) {
            for (int key = 0; key < 8; key += 7) {
                TornPageLog log = Run.made("F403", "p00001 p01002 p02003 p03004 p04000 p05000 c01 p06000 s q" + policy);
                int due = log.lasts(key);
                int puts = 0;
                while (puts < 300 && log.whyNoRoom() == 0) {
                    log.put(key, 0);
                    puts++;
                }
                Check.same("lasts " + key + " with policy " + policy, due, puts);
            }
        }
    }

    private static void lastsWithoutRoom() {
        String live = "p00000 p01000 p02000 p03000 p04000 p05000 p06000";
        TornPageLog log = Run.made("F320", live);
        Check.same("lasts of a new key with one clean page", log.lasts(7), 1);
        Run.on(log, "p07000");
        for (int key = 0; key < 16; key++) {
            Check.same("lasts without room " + key, log.lasts(key), 0);
        }
        TornPageLog off = Run.made("F320", "p00000 c01 p00000");
        for (int key = 0; key < 16; key++) {
            Check.same("lasts while the power is off " + key, off.lasts(key), 0);
        }
        for (int wrong : new int[] {-1, 16}) {
            Check.badArgument(off, "lasts " + wrong + " while the power is off", () -> off.lasts(wrong));
            Check.badArgument(log, "lasts " + wrong + " without room", () -> log.lasts(wrong));
        }
        Run.on(off, "s");
        // Of the 248 records of such a chip one was written, and one page was torn.
        Check.same("lasts behind start", off.lasts(0), 246);
    }

    private static void oldestOfEachKey() {
        Check.same("oldest of no records", new TornPageLog().oldest(), -9);
        for (int key = 0; key < 16; key++) {
            TornPageLog log = Run.made("F620", "");
            log.put(key, 0);
            Check.same("oldest of one key", log.oldest(), key);
            for (int other = 0; other < 16; other++) {
                log.put(other, 0);
            }
            Check.same("oldest of all keys", log.oldest(), 0);
            log.remove(0);
            Check.same("oldest behind the removal of the oldest", log.oldest(), 1);
        }
        TornPageLog down = Run.made("F620", "");
        for (int key = 15; key >= 0; key--) {
            down.put(key, 0);
        }
        Check.same("oldest of keys that were put from the last to the first", down.oldest(), 15);
        down.put(15, 0);
        Check.same("oldest when it was touched", down.oldest(), 14);
        TornPageLog zero = Run.made("F420", "p05000 p00000 p05001");
        Check.same("oldest is the key 0", zero.oldest(), 0);
        Run.on(zero, "d00");
        Check.same("oldest behind its removal", zero.oldest(), 5);
        Run.on(zero, "p00001");
        Check.same("oldest behind its put", zero.oldest(), 5);
        Run.on(zero, "d05 d00");
        Check.same("oldest of removed keys", zero.oldest(), -9);
    }

    private static void oldestBehindCopies() {
        TornPageLog log = Run.made("F420", "p00000 p01000 p02000 p02000 p03000");
        Check.same("oldest before a sweep", log.oldest(), 0);
        Run.on(log, "w");
        Check.same("oldest behind a sweep: the copies are newer", log.oldest(), 3);
        Run.on(log, "c01 p03000");
        Check.same("oldest while the power is off", log.oldest(), 3);
        TornPageLog cut = Run.made("F420", "p00000 p01000 p02000 p02000 p03000 c02 w");
        Check.same("oldest behind a sweep that was cut", cut.oldest(), 1);
    }

    private static void questionsChangeNothing() {
        String[] chips = {"", LookEdges.ONE_CLEAN + " c02", TermEdges.DEAD_BLOCK + " S0 c01 w",
            "p00000 S1 c09 q2 p01000"};
        for (String calls : chips) {
            String before = Deep.of(() -> Run.made("F320", calls));
            String after = Deep.of(() -> {
                TornPageLog log = Run.made("F320", calls);
                log.victim();
                log.whyNoRoom();
                log.oldest();
                log.lasts(0);
                log.simulate(5, 99);
                log.runScript(4, 1099300040011000L);
                Check.answer(log::operations);
                Check.answer(() -> log.afterCut(1, 1, 1));
                Check.answer(() -> log.afterCut(1, 1, 99));
                return log;
            });
            Check.same("questions change nothing behind " + calls, after, before);
        }
    }
}
