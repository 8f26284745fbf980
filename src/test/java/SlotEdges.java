/** Promises 28 and 29 at their edges: the save slots. */
final class SlotEdges {
    private SlotEdges() {
    }

    static void run() {
        emptySlots();
        eachSlot();
        slotsAreApart();
        slotsKeepTheirState();
        saveTellsTheKeys();
        allOfTheStateIsKept();
        restoreForgets();
        saveIsNoAction();
        slotsBehindLoad();
        textsAreNotKept();
        otherObjects();
    }

    private static void emptySlots() {
        TornPageLog log = new TornPageLog();
        Run.same(log, "nothing was saved", "R0 R1", "state state");
        Run.same(log, "in one slot", "S0 R1 R0", "0 state 0");
        TornPageLog other = new TornPageLog();
        Run.same(other, "in the other one", "S1 R0 R1", "0 state 0");
        for (int wrong : new int[] {-1, 2, Integer.MIN_VALUE, Integer.MAX_VALUE}) {
            Check.badIndex(log, "save " + wrong, () -> log.save(wrong));
            Check.badIndex(log, "restore " + wrong, () -> log.restore(wrong));
            Check.badIndex(new TornPageLog(), "restore, nothing saved " + wrong, () -> log.restore(wrong));
        }
    }

    private static void eachSlot() {
        for (int slot = 0; slot < 2; slot++) {
            TornPageLog log = Run.made("F420", "p00001 S" + slot + " p00002");
            Run.same(log, "restore " + slot, "R" + slot, "1");
            Check.same("the value of slot " + slot, log.get(0), 1);
        }
    }

    private static void slotsAreApart() {
        TornPageLog log = Run.made("F420", "p00001 S0 p00002 S1 p00003");
        Run.same(log, "the first one", "R0", "1");
        Check.same("its value", log.get(0), 1);
        Run.same(log, "the second one", "R1", "1");
        Check.same("the value of the second one", log.get(0), 2);
        Run.same(log, "save over the first one", "p00004 S0 R1", "2 1 1");
        Check.same("the second one is as before", log.get(0), 2);
        Run.same(log, "the first one again", "R0", "1");
        Check.same("its new value", log.get(0), 4);
    }

    private static void slotsKeepTheirState() {
        String once = Look.at(Run.made("F420", "p00001 S0"));
        for (String calls : new String[] {"R0", "p00002", "d00", "c01 p00002", "c01 p00002 s", Run.times(20, "p00003"),
            "q2", "c05", "p00000 p00000 p00000 p00000 w", "p00001 u", "S1", "p00002 S1 R1", "L"}) {
            TornPageLog log = Run.made("F420", "p00001 S0");
            Run.on(log, calls);
            Run.same(log, "restore behind " + calls, "R0", "1");
            Check.same("the slot kept its state:", Look.at(log), once);
            Run.same(log, "it is kept once more", "p00004 p05000 R0", "1 2 1");
            Check.same("its value", log.get(0), 1);
        }
    }

    private static void saveTellsTheKeys() {
        TornPageLog log = Run.made("F620", "");
        Run.same(log, "no keys", "S0", "0");
        for (int key = 0; key < 16; key++) {
            log.put(key, key);
            Run.same(log, "keys", "S1 R1", (key + 1) + " " + (key + 1));
        }
        Run.same(log, "behind a removal", "d00 S0 c01 p01000 S1", "16 15 0 -2 15");
        Run.same(log, "restore behind all of it", "R0 R1", "15 15");
        Run.same(log, "behind start", "s d01 S0 R0", "15 18 14 14");
        TornPageLog other = Run.made("F420", "p00000 p01000 p02000 S0 d00 d01 d02");
        Run.same(other, "restore tells the keys of the slot", "S1 R0 R1", "0 3 0");
    }

    private static void allOfTheStateIsKept() {
        String[] chips = {"", "p00001", LookEdges.ONE_CLEAN + " c02", TermEdges.DEAD_BLOCK + " c01 w",
            "p05001 d05 p06000 p06001 p07000 w q2 c09 p03000", "c01 p00000 s c01 p00000 s c01 p00000 s w"};
        for (String calls : chips) {
            for (int slot = 0; slot < 2; slot++) {
                TornPageLog log = Run.made("F405", calls.isEmpty() ? "S" + slot : calls + " S" + slot);
                String once = Look.at(log);
                int mark = nextMark(Run.made("F405", calls));
                Run.on(log, "s c00 q1 p09009 p08008 w c01 p07007");
                Run.on(log, "R" + slot);
                Check.same("restore behind " + calls + ":", Look.at(log), once);
                Check.same("the next mark behind " + calls, nextMark(log), mark);
                // A chip of another size was made between them.
                TornPageLog sizes = Run.made("F805", calls);
                String greater = Look.at(sizes);
                Run.on(sizes, "S" + slot);
                Run.on(sizes, Run.times(6, "p00000") + " R" + slot);
                Check.same("restore of a greater chip behind " + calls + ":", Look.at(sizes), greater);
            }
        }
    }

    /** The mark of the next record; if the power is off, behind start. */
    private static int nextMark(TornPageLog log) {
        Run.on(log, "s c00");
        int address = log.put(0, 0);
        return log.page(address, 3);
    }

    private static void restoreForgets() {
        for (int actions : new int[] {0, 1, 14, 15}) {
            TornPageLog log = Run.made("F420", "p00001 S0");
            if (actions > 0) {
                Run.on(log, Run.times(actions, "p00002"));
            }
            Run.same(log, "all is forgotten behind " + actions, "R0 u", "1 state");
            Run.same(log, "an action behind it", "p00003 u u", "1 0 state");
            Check.same("the value then", log.get(0), 1);
        }
        TornPageLog log = Run.made("F420", "p00001 p00002");
        Run.same(log, "a restore that throws forgets nothing", "R0 R1 u", "state state 1");
        Check.badIndex(log, "restore 2", () -> log.restore(2));
        Run.same(log, "nor one of no slot", "u u", "0 state");
        TornPageLog wrap = Run.made("F420", Run.times(10, "p00001") + " S0 R0 " + Run.times(10, "p00002"));
        Run.same(wrap, "ten behind restore", Run.times(11, "u"), "9 8 7 6 5 4 3 2 1 0 state");
        Check.same("the value of the slot", wrap.get(0), 1);
    }

    private static void saveIsNoAction() {
        TornPageLog log = Run.made("F420", "p00001 S0 S1 p00002 S0");
        Run.same(log, "two actions were done", "u u u", "1 0 state");
        Run.same(log, "undo takes no slot back", "R0", "1");
        Check.same("the value of the slot", log.get(0), 2);
    }

    private static void slotsBehindLoad() {
        TornPageLog log = new TornPageLog();
        Look.write(log, "F420p00001");
        Run.same(log, "both are empty behind load", "S0 S1 L R0 R1", "0 0 0 state state");
        Run.same(log, "one is saved again", "S1 R0 R1 L R1", "1 state 1 0 state");
        log.append('x');
        Run.same(log, "a load that throws empties none", "S0 S1 L R0 R1", "1 1 state 1 1");
    }

    private static void textsAreNotKept() {
        TornPageLog log = new TornPageLog();
        Look.write(log, "F42");
        log.save(0);
        Look.write(log, "0p00001");
        log.restore(0);
        Check.same("the text behind restore is a story", log.errorPosition(), -9);
        Check.same("all of it is there", log.clearText(), 10);
        log.restore(0);
        Check.same("no text comes back", log.clearText(), 0);
    }

    private static void otherObjects() {
        TornPageLog log = Run.made("F420", "p00001 S0 S1");
        Run.same(new TornPageLog(), "the slots of another object are empty", "R0 R1", "state state");
        Run.same(log, "its own are not", "R0 R1", "1 1");
    }
}
