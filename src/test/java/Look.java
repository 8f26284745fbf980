/** Everything that the calls that change nothing tell of an object, as a text. */
final class Look {
    private Look() {
    }

    static String at(TornPageLog log) {
        StringBuilder all = new StringBuilder();
        all.append("error ").append(log.errorPosition()).append(" about");
        for (int what = 0; what <= 13; what++) {
            all.append(' ').append(log.about(what));
        }
        for (int address = 0; address < 4 * log.about(0); address++) {
            all.append(address % 4 == 0 ? "\n " : " |");
            for (int what = 0; what <= 4; what++) {
                all.append(' ').append(log.page(address, what));
            }
        }
        for (int b = 0; b < log.about(0); b++) {
            all.append("\n  block ").append(b);
            for (int what = 0; what <= 5; what++) {
                all.append(' ').append(log.block(b, what));
            }
        }
        all.append("\n  keys");
        for (int key = 0; key < 16; key++) {
            int k = key;
            all.append(' ').append(Check.answer(() -> log.get(k)));
            all.append(' ').append(log.newest(key)).append(' ').append(log.keyAt(key));
        }
        all.append("\n  cut ").append(log.lastCut(0)).append(' ').append(log.lastCut(1));
        all.append(' ').append(log.lastCut(2));
        all.append(" would ").append(log.victim()).append(' ').append(log.whyNoRoom());
        all.append(' ').append(Check.answer(log::operations)).append(' ').append(log.lasts(3));
        all.append(' ').append(log.oldest()).append(' ').append(log.simulate(7, 20));
        return all.toString();
    }

    /** How many states are remembered; takes them all back. */
    static int remembered(TornPageLog log) {
        int count = 0;
        while (Check.answer(log::undo).charAt(0) != 'I') {
            count++;
        }
        return count;
    }

    static void write(TornPageLog log, String text) {
        for (char c : text.toCharArray()) {
            log.append(c);
        }
    }

    /** A new object that has loaded a story. */
    static TornPageLog loaded(String story) {
        TornPageLog log = new TornPageLog();
        write(log, story);
        log.load();
        return log;
    }
}
