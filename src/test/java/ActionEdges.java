/** Promises 13 to 19 and ACTIONS AND UNDO at their edges. */
final class ActionEdges {
    private ActionEdges() {
    }

    static void run() {
        leastAndGreatestPut();
        putOfCleanBlocks();
        putThatIsCut();
        putWithoutRoom();
        removeOfEachKey();
        removeThatSweeps();
        removeThatIsCut();
        removeWithoutRoom();
        sweepTellsTheVictim();
        sweepIsDoneOnce();
        sweepThatIsCut();
        policy0();
        policy1();
        policy2();
        cutOfEachNumber();
        cutTellsWhatWasSet();
        startTellsTheKeys();
        policiesInTurn();
        undoOf13And14And15();
        undoOfWhatChangesNothing();
        undoOfPowerCuts();
        undoBringsMarksBack();
        undoLeavesTextAndSlots();
        undoBetweenActions();
        callsThatAreNoActions();
    }

    private static void chip(TornPageLog log, String what, String due) {
        Check.same(what, Look.chip(log), due);
    }

    private static void leastAndGreatestPut() {
        TornPageLog log = new TornPageLog();
        Run.same(log, "the least and the greatest key and value", "p00000 p00999 p15000 p15999", "0 1 2 3");
        chip(log, "each is a record", "0*[0:0@1x 0:999@2 15:0@3x 15:999@4] 0[- - - -] 0[- - - -] 0[- - - -]");
        Run.same(log, "the same once more", "p15999", "4");
        Check.same("it is a record of its own", log.page(4, 3), 5);
        Check.same("the one before it is dead", log.page(3, 4), 0);
        Run.same(log, "a key that was removed", "d15 p15001", "5 6");
        Check.same("its value", log.get(15), 1);
    }

    private static void putOfCleanBlocks() {
        TornPageLog two = Run.made("F320", Run.times(4, "p00000"));
        Check.same("two clean blocks", two.about(4), 2);
        Run.same(two, "a put opens one", "p01000", "4");
        Check.same("without a sweep", two.about(9), 0);
        TornPageLog one = Run.made("F320", LookEdges.ONE_CLEAN);
        Check.same("one clean block", one.about(4), 1);
        Run.same(one, "a put sweeps", "p05000", "9");
        Check.same("one sweep", one.about(9), 1);
        TornPageLog none = TermEdges.torn();
        Run.on(none, "p02001 p03001 p04001");
        Check.same("no clean block", none.about(4), 0);
        Run.same(none, "a put sweeps twice", "p05000", "1");
        Check.same("two sweeps", none.about(9), 2);
        TornPageLog open = TermEdges.torn();
        Run.same(open, "no clean block, but clean pages in the open one", "p05000", "9");
        Check.same("no sweep", open.about(9), 0);
        TornPageLog same = Run.made("F420", "p02000 p03000 p03000 p01000 p00000 w p01000 w");
        chip(same, "two clean blocks of the same wear",
                "1[- - - -] 1[- - - -] 0*[1:0@9 0:0@10 2:0@11 3:0@12] 0[- - - -]");
        Run.same(same, "the least wear comes first", "p00001 p01001 p02001 p03001", "12 13 14 15");
        Run.same(same, "then the smallest number", "p00002", "0");
    }

    private static void putThatIsCut() {
        TornPageLog log = Run.made("F320", "p00001 c01");
        Run.same(log, "cut at its page", "p00002", "-2");
        Check.same("what is found", log.page(log.newest(0), 2), 1);
        TornPageLog copy = Run.made("F320", LookEdges.ONE_CLEAN + " c01");
        Run.same(copy, "cut at a copy", "p01005 s", "-2 5");
        Check.same("the record is still there", copy.get(1), 0);
        TornPageLog behind = Run.made("F320", LookEdges.ONE_CLEAN + " c02");
        Run.same(behind, "cut at the erasure", "p01005 s", "-2 5");
        Check.same("its copy is there", behind.newest(1), 8);
        Check.same("the value of the copy", behind.get(1), 0);
    }

    private static void putWithoutRoom() {
        String live = "p00000 p01000 p02000 p03000 p04000 p05000 p06000 p07000";
        TornPageLog log = Run.made("F320", live);
        for (int key = 0; key < 16; key++) {
            int k = key;
            Check.badState(log, "put " + key + " with nothing to sweep", () -> log.put(k, 0));
        }
        Run.on(log, "u");
        Run.same(log, "the last page", "p07001 p07002", "7 state");
        // The first sweep could be done, and the cut would fall into it; but it would not be enough.
        TornPageLog vain = TermEdges.torn();
        Run.on(vain, "p05000 p06000 p07000 c01");
        Check.same("what can be swept is not enough", vain.whyNoRoom(), 3);
        Check.badState(vain, "put with a cut that would fall in its sweep", () -> vain.put(0, 0));
        Check.same("the cut is still set", vain.about(11), 1);
        Check.same("nothing was swept", vain.block(0, 3), 4);
    }

    private static void removeOfEachKey() {
        TornPageLog log = Run.made("F820", "");
        for (int key = 0; key < 16; key++) {
            int k = key;
            Check.badState(log, "remove of a key without a record " + key, () -> log.remove(k));
        }
        for (int key = 0; key < 16; key++) {
            log.put(key, 0);
        }
        for (int key = 0; key < 12; key++) {
            Check.same("remove " + key, log.remove(key), 16 + key);
            Check.same("keys behind it", log.about(5), 15 - key);
            int k = key;
            Check.badState(log, "remove once more " + key, () -> log.remove(k));
        }
        Check.same("remove 15", log.remove(15), 28);
        Check.same("its mark", log.page(28, 3), 29);
        Check.badArgument(log, "remove -1", () -> log.remove(-1));
        Check.badArgument(log, "remove 16", () -> log.remove(16));
    }

    private static void removeThatSweeps() {
        TornPageLog log = Run.made("F320", LookEdges.ONE_CLEAN);
        TornPageLog two = Run.made("F320", Run.times(4, "p00000"));
        Run.same(two, "a removal that opens a block", "d00", "4");
        Check.same("without a sweep", two.about(9), 0);
        Run.same(log, "the record is copied, then its removal is written", "d01", "9");
        chip(log, "the removal", "1[- - - -] 0[0:0@5 2:0@6 3:0@7 4:0@8] 0*[1:0@9x 1:d@10 - -]");
        TornPageLog none = TermEdges.torn();
        Run.on(none, "p02001 p03001 p04001");
        Run.same(none, "a removal that sweeps twice", "d00", "1");
        chip(none, "the removal then", "2*[0:0@13x 0:d@14 - -] 1[- - - -] 0[1:0@9 2:1@10 3:1@11 4:1@12]");
    }

    private static void removeThatIsCut() {
        String[] due = {"-2 5", "-2 5", "-2 5", "9 state"};
        for (int n = 1; n <= 4; n++) {
            TornPageLog log = Run.made("F320", LookEdges.ONE_CLEAN + " c0" + n);
            Run.same(log, "cut on operation " + n, "d01 s", due[n - 1]);
            Check.same("get behind it, " + n, log.get(1), n < 4 ? 0 : -9);
        }
    }

    private static void removeWithoutRoom() {
        TornPageLog log = Run.made("F320", "p00000 p01000 p02000 p03000 p04000 p05000 p06000");
        Run.same(log, "the last page, then a sweep of what it made dead", "d00 d01", "7 11");
        TornPageLog full = Run.made("F320", "p00000 p01000 p02000 p03000 p04000 p05000 p06000 p07000");
        Run.same(full, "nothing is torn or dead", "d00 d07", "state state");
        TornPageLog vain = TermEdges.torn();
        Run.on(vain, "p05000 p06000 p07000");
        Run.same(vain, "what can be swept is not enough", "d00", "state");
        Run.on(vain, "c01");
        Run.same(vain, "with a cut that would fall in its sweep", "d00", "state");
        TornPageLog off = Run.made("F320", "p00000 c01 p00000");
        Run.same(off, "while the power is off", "d00 d01", "state state");
    }

    private static void sweepTellsTheVictim() {
        TornPageLog first = Run.made("F320", TermEdges.DEAD_BLOCK);
        Run.same(first, "the first block", "w", "0");
        TornPageLog torn = Run.made("F320", "c01 p00000 s c01 p00000 s");
        Run.same(torn, "torn blocks", "w w w", "0 1 state");
        // The records behind the 28th are written in blocks that were swept, and in the last block.
        TornPageLog last = Run.made("F820", Run.times(33, "p00000"));
        chip(last, "all but the open block can be victims, or are clean", "1*[0:0@33 - - -] 1[- - - -]"
                + " 0[0:0@9x 0:0@10x 0:0@11x 0:0@12x] 0[0:0@13x 0:0@14x 0:0@15x 0:0@16x]"
                + " 0[0:0@17x 0:0@18x 0:0@19x 0:0@20x] 0[0:0@21x 0:0@22x 0:0@23x 0:0@24x]"
                + " 0[0:0@25x 0:0@26x 0:0@27x 0:0@28x] 0[0:0@29x 0:0@30x 0:0@31x 0:0@32x]");
        Run.same(last, "one after the other, to the last block", "w w w w w w w", "2 3 4 5 6 7 state");
    }

    private static void sweepIsDoneOnce() {
        TornPageLog log = Run.made("F420", Run.times(9, "p00000"));
        Run.same(log, "one block", "w", "0");
        chip(log, "the other one is as before", "1[- - - -] 0[0:0@5x 0:0@6x 0:0@7x 0:0@8x] 0*[0:0@9 - - -] 0[- - - -]");
        Run.same(log, "the other one, then none", "w w", "1 state");
        TornPageLog full = Run.made("F420", Run.times(8, "p00000"));
        Run.same(full, "a sweep opens no block without a copy", "w", "0");
        Check.same("the open block", full.about(3), 1);
    }

    private static void sweepThatIsCut() {
        String calls = "p00000 p01000 p02000 p02000 p03000 p03000 c0";
        String[] due = {
            "0[0:0@1 1:0@2 2:0@3x 2:0@4] 0[3:0@5x 3:0@6 # -] 0[- - - -]",
            "0[0:0@1x 1:0@2 2:0@3x 2:0@4] 0[3:0@5x 3:0@6 0:0@7 #] 0[- - - -]",
            "0[0:0@1x 1:0@2x 2:0@3x 2:0@4] 0[3:0@5x 3:0@6 0:0@7 1:0@8] 0[# - - -]",
            "1[# # # #] 0[3:0@5x 3:0@6 0:0@7 1:0@8] 0[2:0@9 - - -]"};
        int[] where = {6, 7, 8, 0};
        for (int n = 1; n <= 4; n++) {
            TornPageLog log = Run.made("F320", calls + n);
            Run.same(log, "cut on operation " + n, "w", "-2");
            chip(log, "what it leaves, " + n, due[n - 1]);
            Check.same("where it fell, " + n, log.lastCut(0), where[n - 1]);
            Check.same("on what it fell, " + n, log.lastCut(1), n < 4 ? 0 : 1);
            Check.same("in a sweep, " + n, log.lastCut(2), 1);
            Run.same(log, "while the power is off, " + n, "w", "state");
        }
        TornPageLog behind = Run.made("F320", calls + 5);
        Run.same(behind, "a cut behind it", "w", "0");
        Check.same("it is still set", behind.about(11), 1);
    }

    private static void victims(TornPageLog log, String what, int policy0, int policy1, int policy2) {
        int[] due = {policy0, policy1, policy2};
        for (int policy = 0; policy < 3; policy++) {
            log.setPolicy(policy);
            Check.same(what + ", the victim with policy " + policy, log.victim(), due[policy]);
            Run.same(log, what + ", swept with policy " + policy, "w", "" + due[policy]);
            Run.on(log, "u");
        }
    }

    private static void policy0() {
        TornPageLog live = Run.made("F320", "p03000 p01000 p01000 p02000 p04000 p04000 p00000 p01000 c01 p04000 s"
                + " p02000 c01 w s");
        chip(live, "fewer live pages, more wear, greater marks",
                "1[- - - -] 0[4:0@5x 4:0@6 0:0@7 1:0@8] 1[3:0@9 2:0@10x 2:0@11 #]");
        victims(live, "the fewest live pages", 2, 1, 1);
        TornPageLog wear = Run.made("F320", "p01000 p04000 p03000 p05000 p02000 p05000 p04000 c03 w s p00000 p01000"
                + " p05000 p00000 w p03000 c01 p04000 s");
        chip(wear, "as many live pages, less wear, greater marks",
                "2[2:0@13 4:0@14 0:0@15 3:0@16x] 1[1:0@17 5:0@18 3:0@19 #] 1[- - - -]");
        victims(wear, "then the least wear", 1, 1, 0);
        TornPageLog number = Run.made("F320", "p00000 p02000 c03 p03000 p03000 p02000 s p01000 p01000 w w p03000"
                + " c03 p03000 p00000 p01000 s");
        chip(number, "as many live pages, the same wear, greater marks",
                "1[3:0@13x 3:0@14 0:0@15 #] 1[3:0@9x 1:0@10 0:0@11x 2:0@12] 1[- - - -]");
        victims(number, "then the smallest number", 0, 0, 1);
    }

    private static void policy1() {
        TornPageLog wear = Run.made("F320", "p05000 p00000 p00000 p04000 p05000 p01000 p00000 p02000 w p00000 c03 w s w"
                + " c03 p05000 s p00000 w c02 w s");
        chip(wear, "less wear, more live pages, greater marks",
                "2[2:0@13x # 0:0@14 4:0@15] 1[5:0@16 1:0@17 2:0@18 #] 1[- - - -]");
        victims(wear, "the least wear", 0, 1, 0);
        TornPageLog live = Run.made("F320", "p01000 p00000 p02000 p01000 p00000 p00000 p00000 c01 w s");
        chip(live, "the same wear, fewer live pages, greater marks",
                "0[1:0@1x 0:0@2x 2:0@3 1:0@4] 0[0:0@5x 0:0@6x 0:0@7 #] 0[- - - -]");
        victims(live, "then the fewest live pages", 1, 1, 0);
    }

    private static void policy2() {
        TornPageLog marks = Run.made("F320", "p00000 p02000 p03000 c02 p05000 p02000 s p01000 p03000 c03 p03000 w s w"
                + " p01000 p01000 p00000 c01 p00000 s");
        chip(marks, "smaller marks, more live pages, more wear",
                "1[3:0@13 0:0@14x 0:0@15 #] 2[2:0@9 5:0@10 1:0@11x 1:0@12] 1[- - - -]");
        victims(marks, "the smallest of the greatest marks", 0, 0, 1);
        TornPageLog none = Run.made("F520", "p03000 p03000 p04000 c02 p02000 p05000 s c01 w s");
        chip(none, "no written page", "0[3:0@1x 3:0@2 4:0@3 2:0@4] 1[# # # #] 0[- - - -] 0[- - - -] 0[- - - -]");
        victims(none, "no written page counts as 0", 1, 0, 1);
        TornPageLog both = Run.made("F420", "c01 p03000 s c01 w s c01 p01000 s");
        chip(both, "no written page in either", "1[# # # #] 0[# - - -] 0[- - - -] 0[- - - -]");
        victims(both, "then the smallest number", 1, 1, 0);
    }

    private static void cutOfEachNumber() {
        TornPageLog log = new TornPageLog();
        int before = 0;
        for (int n = 0; n <= 99; n++) {
            Check.same("cut " + n, log.cut(n), before);
            Check.same("it is set", log.about(11), n);
            before = n;
        }
        Run.same(log, "none is set any more", "c00 c00", "99 0");
        for (int n = 1; n <= 99; n++) {
            fallsOn(n);
        }
    }

    private static void fallsOn(int n) {
        TornPageLog log = Run.made("F420", "");
        log.cut(n);
        int puts = 0;
        while (puts < 99 && log.put(0, 0) != -2) {
            puts++;
        }
        Check.same("the operation on which cut " + n + " falls", log.about(6), n);
        Check.same("what was done before it", log.about(7) + log.about(9), n - 1);
    }

    private static void cutTellsWhatWasSet() {
        TornPageLog log = new TornPageLog();
        Run.same(log, "what was set", "c05 c07 c00 c99 c99", "0 5 7 0 99");
        Run.same(log, "what is left of it", "p00000 c98 p00000 p00000 c03", "0 98 1 2 96");
        Run.same(log, "it falls", "p00000 p00000 p00000", "3 4 -2");
        Run.same(log, "not while the power is off", "c00 c01 c99", "state state state");
        Run.same(log, "nothing is set behind start", "s c00", "1 0");
        TornPageLog same = Run.made("F420", "c01");
        Run.same(same, "a cut that is taken back", "c00 p00000 p00000 p00000", "1 0 1 2");
    }

    private static void startTellsTheKeys() {
        Run.same(new TornPageLog(), "while the power is on", "s", "state");
        Run.same(Run.made("F420", "c01 p00000"), "no key", "s s", "0 state");
        Run.same(Run.made("F420", "p00000 d00 c01 p01000"), "a key that was removed", "s", "0");
        Run.same(Run.made("F420", "p00000 p15000 p07000 d07 c01 p01000"), "two keys", "s", "2");
        TornPageLog log = Run.made("F620", "");
        for (int key = 0; key < 16; key++) {
            log.put(key, key);
        }
        Run.same(log, "all keys", "c01 p00000 s", "0 -2 16");
    }

    private static void policiesInTurn() {
        TornPageLog log = new TornPageLog();
        Run.same(log, "the policy before", "q0 q1 q1 q2 q2 q0 q2 q1 q0", "0 0 1 1 2 2 0 2 1");
        Run.same(log, "while the power is off", "c01 p00000 q2 q1", "0 -2 0 2");
        Run.same(log, "it stays behind start", "s q0", "0 1");
    }

    private static void undoOf13And14And15() {
        for (int actions = 0; actions <= 30; actions++) {
            TornPageLog log = new TornPageLog();
            for (int i = 0; i < actions; i++) {
                log.put(0, i);
            }
            int kept = Math.min(actions, 14);
            for (int i = 1; i <= kept; i++) {
                Check.same("undo " + i + " of " + actions, log.undo(), kept - i);
                Check.same("pages behind undo " + i + " of " + actions, log.about(7) - log.about(8), actions - i);
            }
            Check.badState(log, "undo of more than " + kept, log::undo);
            Check.same("the value then", log.get(0), actions == kept ? -9 : actions - kept - 1);
        }
    }

    private static void undoOfWhatChangesNothing() {
        TornPageLog log = new TornPageLog();
        String once = Look.at(log);
        Run.same(log, "actions that change nothing", "c00 q0 c00", "0 0 0");
        Check.same("nothing is changed:", Look.at(log), once);
        Run.same(log, "each is remembered", "u u u u", "2 1 0 state");
        Run.same(log, "what throws is not", "d00 w s p00000 d01 s w u u",
                "state state state 0 state state state 0 state");
        Run.same(log, "15 of them", Run.times(15, "q0") + " u", Run.times(15, "0") + " 13");
    }

    private static void undoOfPowerCuts() {
        String before = LookEdges.ONE_CLEAN + " c02";
        TornPageLog log = Run.made("F320", before);
        Run.same(log, "a put that is cut is an action, so is start", "p05000 s u", "-2 5 10");
        Check.same("start is taken back:", Look.at(log), Look.at(Run.made("F320", before + " p05000")));
        Run.same(log, "the power cut is taken back", "u", "9");
        Check.same("the power is on, and the cut is set:", Look.at(log), Look.at(Run.made("F320", before)));
        Run.same(log, "a sweep that is cut is an action", "c01 w u u", "2 -2 10 9");
        Run.same(log, "a removal that is cut is an action", "d01 u u", "-2 9 8");
        Check.same("the cut is not set any more", log.about(11), 0);
    }

    private static void undoBringsMarksBack() {
        TornPageLog log = Run.made("F320", "p00000 p00001");
        Run.on(log, "u p00002");
        chip(log, "the mark is given again", "0*[0:0@1x 0:2@2 - -] 0[- - - -] 0[- - - -]");
        // Behind start the next mark is smaller than it was before the power cut.
        TornPageLog cut = Run.made("F420", "p05000 d05 p00000 p00000 p00000 p05001 d05 p00000 p01000 w w");
        chip(cut, "a removal alone", "1[- - - -] 1[- - - -] 0*[1:0@9 5:d@10x 0:0@11 -] 0[- - - -]");
        Run.same(cut, "what start finds is taken back", "c01 p02000 s u u u", "0 -2 2 13 12 11");
        Run.same(cut, "the open block is there again", "p02000", "11");
        Check.same("and the mark", cut.page(11, 3), 12);
    }

    private static void undoLeavesTextAndSlots() {
        TornPageLog log = new TornPageLog();
        Run.on(log, "p00001 S0 p00002");
        Look.write(log, "F301");
        Run.same(log, "undo", "u u", "1 0");
        Check.same("the text is kept", log.errorPosition(), -9);
        Check.same("all of it", log.clearText(), 4);
        Run.same(log, "the slot is kept, with what was taken back", "R0", "1");
        Check.same("its value", log.get(0), 1);
    }

    private static void undoBetweenActions() {
        TornPageLog log = new TornPageLog();
        Run.on(log, Run.times(20, "p00000"));
        Run.same(log, "14 are remembered", "u u u u", "13 12 11 10");
        Run.same(log, "and four more", "p01001 p01002 p01003 p01004", "0 1 2 3");
        Run.same(log, "14 again, and one is forgotten", "p01005 u", "4 13");
        Run.same(log, "back to the value before", "u u u u", "12 11 10 9");
        Check.same("no value", log.get(1), -9);
        Run.same(log, "to the first that is remembered", Run.times(10, "u"), "8 7 6 5 4 3 2 1 0 state");
        Check.same("puts then", log.about(7), 7);
    }

    private static void callsThatAreNoActions() {
        TornPageLog log = Run.made("F420", "p00000");
        Look.at(log);
        log.append('F');
        log.clearText();
        log.errorPosition();
        log.save(0);
        log.afterCut(0, 0, 1);
        log.runScript(1, 1000);
        log.simulate(0, 1);
        Run.same(log, "one action was done", "u u", "0 state");
    }
}
