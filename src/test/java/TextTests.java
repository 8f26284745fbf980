/** Promises 1 to 5: a new object and the text. */
final class TextTests {
    private TextTests() {
    }

    static void run() {
        newObject();
        append();
        clearText();
        errorPosition();
        loadRunsCommands();
        loadLeavesOut();
        loadForgets();
        loadWantsStory();
    }

    private static void newObject() {
        Check.same("NONE", TornPageLog.NONE, -9);
        Check.same("CUT", TornPageLog.CUT, -2);
        TornPageLog log = new TornPageLog();
        int[] about = {4, 20, 1, -9, 4, 0, 0, 0, 0, 0, 0, 0, 0, 0};
        for (int what = 0; what < about.length; what++) {
            Check.same("new: about " + what, log.about(what), about[what]);
        }
        for (int a = 0; a < 16; a++) {
            Check.same("new: page " + a, log.page(a, 0), 0);
            Check.same("new: key of page " + a, log.page(a, 1), -9);
        }
        int[] block = {0, 0, 4, 0, 0, 0};
        for (int what = 0; what < block.length; what++) {
            Check.same("new: block 3, " + what, log.block(3, what), block[what]);
        }
        for (int what = 0; what < 3; what++) {
            Check.same("new: lastCut " + what, log.lastCut(what), -9);
        }
        Check.same("new: get", log.get(0), -9);
        Check.same("new: keyAt", log.keyAt(0), -9);
        Check.same("new: newest", log.newest(0), -9);
        Check.same("new: victim", log.victim(), -9);
        Check.same("new: whyNoRoom", log.whyNoRoom(), 0);
        Check.same("new: operations", log.operations(), 1);
        Check.same("new: oldest", log.oldest(), -9);
        Check.same("new: errorPosition", log.errorPosition(), 0);
        Check.same("new: clearText", log.clearText(), 0);
        Check.badState(log, "new: undo", log::undo);
        Check.badState(log, "new: restore 0", () -> log.restore(0));
        Check.badState(log, "new: restore 1", () -> log.restore(1));
        Check.badIndex(log, "new: page 16", () -> log.page(16, 0));
        Check.badIndex(log, "new: block 4", () -> log.block(4, 0));
    }

    private static void append() {
        TornPageLog log = new TornPageLog();
        Check.badArgument(log, "append -1", () -> log.append(-1));
        Check.badArgument(log, "append 256", () -> log.append(256));
        Check.badArgument(log, "append least", () -> log.append(Integer.MIN_VALUE));
        Check.same("append 0", log.append(0), 1);
        Check.same("append 255", log.append(255), 2);
        for (int i = 3; i <= 90; i++) {
            Check.same("append number " + i, log.append(65), i);
        }
        Check.badState(log, "append number 91", () -> log.append(65));
        Check.badArgument(log, "append -1 to a full text", () -> log.append(-1));
        Check.badArgument(log, "append 256 to a full text", () -> log.append(256));
        Check.same("a full text", log.clearText(), 90);
        Check.same("append behind clearText", log.append(70), 1);
    }

    private static void clearText() {
        TornPageLog log = new TornPageLog();
        Look.write(log, "F301p00");
        Check.same("clearText", log.clearText(), 7);
        Check.same("errorPosition of an emptied text", log.errorPosition(), 0);
        Check.same("clearText again", log.clearText(), 0);
        Look.write(log, "F301");
        Check.same("a story behind clearText", log.errorPosition(), -9);
        Check.badState(log, "undo: texts are no actions", log::undo);
    }

    private static void errorPosition() {
        error("", 0);
        error("f", 0);
        error(" F", 0);
        error("F", 1);
        error("F2", 1);
        error("F9", 1);
        error("F:", 1);
        error("F3", 2);
        error("F8", 2);
        error("F3a", 2);
        error("F3/1", 2);
        error("F3:1", 2);
        error("F30", 3);
        error("F300", 3);
        error("F30:", 3);
        error("F301", -9);
        error("F310", -9);
        error("F899", -9);
        error("F3010", 4);
        error("F301 ", 4);
        error("F301x", 4);
        error("F301P", 4);
        error("F301p", 5);
        error("F301p2", 5);
        error("F301p1", 6);
        error("F301p16", 6);
        error("F301p1x", 6);
        error("F301p15", 7);
        error("F301p09a", 7);
        error("F301p15999", -9);
        error("F301p00000", -9);
        error("F301p159", 8);
        error("F301p1599", 9);
        error("F301p15 99", 7);
        error("F301d", 5);
        error("F301d16", 6);
        error("F301d15", -9);
        error("F301d3", 5);
        error("F301w", -9);
        error("F301w0", 5);
        error("F301c", 5);
        error("F301c9", 6);
        error("F301c99", -9);
        error("F301c00", -9);
        error("F301cx", 5);
        error("F301s", -9);
        error("F301q", 5);
        error("F301q0", -9);
        error("F301q2", -9);
        error("F301q3", 5);
        error("F301q22", 6);
        error("F301p00000wx", 11);
        error("F301wsq1c10d07p01234", -9);
        error("F301" + "w".repeat(86), -9);
        error("F301" + "w".repeat(85) + "q", 90);
        TornPageLog log = new TornPageLog();
        log.append(0);
        Check.same("errorPosition of the character 0", log.errorPosition(), 0);
        log.clearText();
        Look.write(log, "F301");
        log.append(255);
        Check.same("errorPosition of the character 255", log.errorPosition(), 4);
    }

    private static void error(String text, int due) {
        TornPageLog log = new TornPageLog();
        Look.write(log, text);
        Check.same("errorPosition of " + text, log.errorPosition(), due);
        if (due != -9) {
            Check.badState(log, "load of " + text, log::load);
        }
    }

    private static void loadRunsCommands() {
        TornPageLog log = new TornPageLog();
        Look.write(log, "F307p00111p01222p00333d01q2p02444wc07");
        Check.same("load of what can be done", log.load(), 0);
        Check.same("load: B", log.about(0), 3);
        Check.same("load: L", log.about(1), 7);
        Check.same("load: policy", log.about(12), 2);
        Check.same("load: cut", log.about(11), 7);
        Check.same("load: key 0", log.get(0), 333);
        Check.same("load: key 1", log.get(1), -9);
        Check.same("load: key 2", log.get(2), 444);
        Check.same("load: erased blocks", log.about(9), 1);
        Check.same("load: operations", log.about(6), 8);
        Check.same("load: copies", log.about(8), 2);
        Check.same("load keeps the text", log.clearText(), 37);
        Look.write(log, "F802p00111");
        Check.same("load while a cut is set", log.load(), 0);
        Check.same("load takes the cut back", log.about(11), 0);
        log.clearText();
        Look.write(log, "F802c01p00111s");
        Check.same("load of a power cut", log.load(), 0);
        Check.same("load: power cuts", log.about(10), 1);
        Check.same("load: power", log.about(2), 1);
        Check.same("load: B is 8", log.about(0), 8);
        Check.same("load: everything is new", log.about(6), 1);
        Check.same("load: the policy is new", log.about(12), 0);
        Check.same("load: page 31", log.page(31, 0), 0);
        Check.badIndex(log, "load: page 32", () -> log.page(32, 0));
    }

    private static void loadLeavesOut() {
        TornPageLog log = new TornPageLog();
        Look.write(log, "F302d05swp05001sd05d05");
        Check.same("load with d05, s, w, s and the second d05 left out", log.load(), 5);
        log.clearText();
        Look.write(log, "F302c02p00111p00222p00333c05wd00q1sp01444");
        Check.same("load with p, c, w and d left out while the power is off", log.load(), 4);
        Check.same("load: what was there before the cut", log.get(0), 111);
        Check.same("load: what was put after the cut", log.get(1), 444);
        Check.same("load: the policy can be changed while the power is off", log.about(12), 1);
        log.clearText();
        // Two blocks are full of records that count, and the last one is left to sweeps.
        Look.write(log, "F301p00000p01000p02000p03000p04000p05000p06000p07000p08000p09000d01");
        Check.same("load with what has no room left out", log.load(), 3);
    }

    private static void loadForgets() {
        TornPageLog log = new TornPageLog();
        log.put(1, 1);
        log.save(0);
        log.save(1);
        Look.write(log, "F420p02002q1");
        log.load();
        Check.badState(log, "undo behind load", log::undo);
        Check.badState(log, "restore 0 behind load", () -> log.restore(0));
        Check.badState(log, "restore 1 behind load", () -> log.restore(1));
        String once = Look.at(log);
        log.put(3, 3);
        log.cut(1);
        log.put(3, 4);
        Check.same("load while the power is off", log.load(), 0);
        Check.same("load makes the same once more:", Look.at(log), once);
    }

    private static void loadWantsStory() {
        TornPageLog log = new TornPageLog();
        log.put(1, 1);
        log.save(1);
        Check.badState(log, "load of no text", log::load);
        Look.write(log, "F301p00");
        Check.badState(log, "load of half a command", log::load);
        Check.same("undo behind a load that throws", log.undo(), 0);
        Check.same("restore behind a load that throws", log.restore(1), 1);
    }
}
