/** Promises 28 and 29: the save slots. */
final class SlotTests {
    private SlotTests() {
    }

    static void run() {
        saveAndRestore();
        everythingIsSaved();
        undoAndSlots();
        wrongArguments();
    }

    private static void saveAndRestore() {
        TornPageLog log = new TornPageLog();
        log.put(1, 10);
        log.put(2, 20);
        Check.same("save", log.save(0), 2);
        log.remove(1);
        Check.same("save in the other slot", log.save(1), 1);
        log.put(3, 30);
        log.put(4, 40);
        Check.same("restore", log.restore(0), 2);
        Check.same("a value behind restore", log.get(1), 10);
        Check.same("no value behind restore", log.get(3), -9);
        Check.same("operations behind restore", log.about(6), 2);
        log.put(1, 11);
        Check.same("restore of the other slot", log.restore(1), 1);
        Check.same("no value in the other slot", log.get(1), -9);
        Check.same("restore: the slot keeps its state", log.restore(0), 2);
        Check.same("the value in the slot", log.get(1), 10);
        log.put(5, 50);
        Check.same("save over it", log.save(0), 3);
        log.put(6, 60);
        Check.same("restore of the later state", log.restore(0), 3);
    }

    private static TornPageLog swept() {
        return Look.loaded("F503p00001p00002p00003p00004p01005p02006p01007q2c05w");
    }

    private static void everythingIsSaved() {
        TornPageLog log = swept();
        log.save(0);
        log.cut(1);
        log.put(3, 3);
        String powerOff = Look.at(log);
        Check.same("save while the power is off", log.save(1), 3);
        log.start();
        log.setPolicy(0);
        log.put(3, 4);
        log.restore(1);
        Check.same("restore to a state without power:", Look.at(log), powerOff);
        Check.badState(log, "get behind it", () -> log.get(0));
        Check.same("start behind it", log.start(), 3);
        TornPageLog other = swept();
        String powerOn = Look.at(other);
        other.save(0);
        other.cut(1);
        other.put(3, 3);
        other.restore(0);
        Check.same("restore to a state with power:", Look.at(other), powerOn);
        other.clearText();
        other.restore(0);
        Check.same("the text is not in a slot", other.clearText(), 0);
    }

    private static void undoAndSlots() {
        TornPageLog log = new TornPageLog();
        log.put(1, 1);
        log.save(0);
        log.put(1, 2);
        Check.same("undo: save is no action", log.undo(), 1);
        log.put(1, 3);
        log.save(1);
        log.undo();
        Check.same("undo takes no slot back", log.restore(1), 1);
        Check.same("the value in the slot", log.get(1), 3);
        Check.badState(log, "undo behind restore", log::undo);
        log.put(1, 4);
        Check.same("undo behind restore and an action", log.undo(), 0);
        Check.same("the value then", log.get(1), 3);
    }

    private static void wrongArguments() {
        TornPageLog log = new TornPageLog();
        log.put(1, 1);
        for (int wrong : new int[] {-1, 2, Integer.MIN_VALUE, Integer.MAX_VALUE}) {
            Check.badIndex(log, "save " + wrong, () -> log.save(wrong));
            Check.badIndex(log, "restore " + wrong, () -> log.restore(wrong));
        }
        Check.badState(log, "restore of nothing", () -> log.restore(0));
        log.save(1);
        Check.badState(log, "restore of the other slot", () -> log.restore(0));
        Check.same("undo behind restores that throw", log.undo(), 0);
        Check.same("restore of what was saved", log.restore(1), 1);
    }
}
