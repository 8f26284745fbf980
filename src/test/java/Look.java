/**
 * What the calls that change nothing tell of an object, as a text. The document promises nothing behind the 512th
 * call on an object, so what is looked at is no more than is needed: at() makes some 150 to 250 calls.
 */
final class Look {
    private Look() {
    }

    static String at(TornPageLog log) {
        StringBuilder all = new StringBuilder();
        all.append("error ").append(log.errorPosition()).append(" about");
        for (int what = 0; what <= 13; what++) {
            all.append(' ').append(log.about(what));
        }
        for (int address = 0; address < 4 * log.about(0); address++) {
            all.append(address % 4 == 0 ? "\n " : " |");
            int kind = log.page(address, 0);
            all.append(' ').append(kind);
            for (int what = 1; what <= 4 && kind == 1; what++) {
                all.append(' ').append(log.page(address, what));
            }
        }
        for (int b = 0; b < log.about(0); b++) {
            all.append("\n  block ").append(b);
            for (int what = 0; what <= 5; what++) {
                all.append(' ').append(log.block(b, what));
            }
        }
        all.append("\n  keys");
        for (int key = 0; key < 16; key++) {
            int k = key;
            all.append(' ').append(Check.answer(() -> log.get(k)));
            all.append(' ').append(log.newest(key)).append(' ').append(log.keyAt(key));
        }
        all.append("\n  cut ").append(log.lastCut(0)).append(' ').append(log.lastCut(1));
        all.append(' ').append(log.lastCut(2));
        all.append(" would ").append(log.victim()).append(' ').append(log.whyNoRoom());
        all.append(' ').append(Check.answer(log::operations)).append(' ').append(log.lasts(3));
        all.append(' ').append(log.oldest()).append(' ').append(log.simulate(7, 20));
        return all.toString();
    }

    /** What most calls that change something would change, in six calls. */
    static String brief(TornPageLog log) {
        StringBuilder all = new StringBuilder();
        for (int what : new int[] {2, 3, 5, 6, 11, 12}) {
            all.append(log.about(what)).append(' ');
        }
        return all.toString();
    }

    /**
     * The blocks as a short text: the wear, a star if it is open, and the pages; - is clean, # is torn, 3:50@7 is
     * the key 3 with the value 50 and the mark 7, 3:d@8 its removal, an x behind it tells that it is dead.
     */
    static String chip(TornPageLog log) {
        StringBuilder all = new StringBuilder();
        for (int b = 0; b < log.about(0); b++) {
            all.append(b > 0 ? " " : "").append(log.block(b, 0)).append(log.about(3) == b ? "*" : "");
            for (int q = 0; q < 4; q++) {
                all.append(q == 0 ? "[" : " ").append(page(log, 4 * b + q));
            }
            all.append(']');
        }
        return all.toString();
    }

    private static String page(TornPageLog log, int address) {
        int kind = log.page(address, 0);
        if (kind != 1) {
            return kind == 0 ? "-" : kind == 2 ? "#" : "?";
        }
        int value = log.page(address, 2);
        return log.page(address, 1) + ":" + (value == -9 ? "d" : value) + "@" + log.page(address, 3)
                + (log.page(address, 4) == 0 ? "x" : "");
    }

    /** How many states are remembered; takes them all back. */
    static int remembered(TornPageLog log) {
        int count = 0;
        while (Check.answer(log::undo).charAt(0) != 'I') {
            count++;
        }
        return count;
    }

    static void write(TornPageLog log, String text) {
        for (char c : text.toCharArray()) {
            log.append(c);
        }
    }

    /** A new object that has loaded a story. */
    static TornPageLog loaded(String story) {
        TornPageLog log = new TornPageLog();
        write(log, story);
        log.load();
        return log;
    }
}
