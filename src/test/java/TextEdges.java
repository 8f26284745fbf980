/** Promises 1 to 5 and TEXT at their edges: each character at each place, the empty and the full text, and load. */
final class TextEdges {
    private static final String DIGITS = "0123456789";
    private static final String COMMANDS = "pdwcsq";

    private TextEdges() {
    }

    static void run() {
        nothingIsKeptBetweenObjects();
        eachCharacterCode();
        fullText();
        emptyText();
        charactersOfTheHead();
        charactersOfCommands();
        charactersBehindCommands();
        textsThatEndTooSoon();
        errorsBehindErrors();
        storiesOf90();
        loadOfEachSize();
        loadOfEachCommand();
        loadLeavesOutEachCommand();
        loadCountsPowerCutsNot();
        loadMakesAllNew();
        loadIsNoAction();
        loadKeepsTheText();
    }

    private static void nothingIsKeptBetweenObjects() {
        String once = Look.at(new TornPageLog());
        TornPageLog other = Look.loaded("F802p00001c01p00002");
        other.save(0);
        Check.same("another new object:", Look.at(new TornPageLog()), once);
        TornPageLog log = new TornPageLog();
        Run.same(log, "nothing is remembered or saved", "u R0 R1 L", "state state state state");
        Run.same(log, "the first record of a new object", "p00000", "0");
        Check.same("the first mark", log.page(0, 3), 1);
        Check.same("the first open block", log.about(3), 0);
    }

    private static void eachCharacterCode() {
        for (int c = 0; c <= 255; c++) {
            TornPageLog log = new TornPageLog();
            Check.same("append " + c, log.append(c), 1);
            Check.same("errorPosition of " + c, log.errorPosition(), c == 'F' ? 1 : 0);
            Check.same("clearText of " + c, log.clearText(), 1);
        }
    }

    private static void fullText() {
        TornPageLog log = new TornPageLog();
        for (int i = 1; i <= 89; i++) {
            log.append('F');
        }
        Check.same("append the last one", log.append('F'), 90);
        Check.badState(log, "append one more", () -> log.append('F'));
        Check.badState(log, "append the least one more", () -> log.append(0));
        Check.badState(log, "append the greatest one more", () -> log.append(255));
        Check.badArgument(log, "append what is no character", () -> log.append(256));
        Check.same("clearText of a full text", log.clearText(), 90);
        Check.same("append to what was full", log.append('F'), 1);
    }

    private static void emptyText() {
        TornPageLog log = new TornPageLog();
        Check.same("clearText of no text", log.clearText(), 0);
        Check.same("errorPosition of no text", log.errorPosition(), 0);
        Check.badState(log, "load of no text", log::load);
        Look.write(log, "F420");
        Check.same("clearText of a story", log.clearText(), 4);
        Check.same("errorPosition of an emptied text", log.errorPosition(), 0);
        Check.badState(log, "load of an emptied text", log::load);
        // What was behind the end of the text before is not read.
        Look.write(log, "F8");
        Check.same("errorPosition of a shorter text", log.errorPosition(), 2);
    }

    /** Of all characters exactly these are allowed behind a text that is a story or the beginning of one. */
    private static void allowed(String before, String due) {
        StringBuilder got = new StringBuilder();
        for (int c = 0; c <= 255; c++) {
            TornPageLog log = new TornPageLog();
            Look.write(log, before);
            log.append(c);
            int position = log.errorPosition();
            if (position != before.length()) {
                got.append((char) c);
                // What is allowed makes a story, or the text ends too soon.
                Check.isTrue("errorPosition of " + before + (char) c,
                        position == -9 || position == before.length() + 1);
            }
        }
        Check.same("what is allowed behind " + before, got.toString(), sorted(due));
    }

    private static String sorted(String characters) {
        char[] all = characters.toCharArray();
        java.util.Arrays.sort(all);
        return new String(all);
    }

    private static void charactersOfTheHead() {
        allowed("", "F");
        allowed("F", "345678");
        allowed("F3", DIGITS);
        allowed("F8", DIGITS);
        allowed("F30", "123456789");
        for (char digit = '1'; digit <= '9'; digit++) {
            allowed("F5" + digit, DIGITS);
        }
    }

    private static void charactersOfCommands() {
        allowed("F301p", "01");
        allowed("F301p0", DIGITS);
        allowed("F301p1", "012345");
        for (String key : new String[] {"00", "09", "10", "15"}) {
            allowed("F301p" + key, DIGITS);
            allowed("F301p" + key + "0", DIGITS);
            allowed("F301p" + key + "9", DIGITS);
            allowed("F301p" + key + "00", DIGITS);
            allowed("F301p" + key + "99", DIGITS);
        }
        allowed("F301d", "01");
        allowed("F301d0", DIGITS);
        allowed("F301d1", "012345");
        allowed("F301c", DIGITS);
        allowed("F301c0", DIGITS);
        allowed("F301c9", DIGITS);
        allowed("F301q", "012");
    }

    private static void charactersBehindCommands() {
        for (String before : new String[] {"F301", "F899", "F301p00000", "F301p15999", "F301d00", "F301d15", "F301w",
            "F301c00", "F301c99", "F301s", "F301q0", "F301q2", "F420p00123d00wc05sq1"}) {
            allowed(before, COMMANDS);
            TornPageLog log = new TornPageLog();
            Look.write(log, before);
            Check.same("errorPosition of the story " + before, log.errorPosition(), -9);
        }
    }

    private static void textsThatEndTooSoon() {
        String story = "F810p15999d00c10q2";
        for (int length = 0; length <= story.length(); length++) {
            TornPageLog log = new TornPageLog();
            Look.write(log, story.substring(0, length));
            boolean whole = length == 4 || length == 10 || length == 13 || length == 16 || length == 18;
            Check.same("errorPosition of so many characters: " + length, log.errorPosition(), whole ? -9 : length);
            Check.same("load of so many characters: " + length, Run.on(log, "L"),
                    !whole ? "state" : length < 13 ? "0" : "1");
        }
    }

    /** The first one counts, whatever is behind it. */
    private static void errorsBehindErrors() {
        String[] texts = {"xF301", "F2x1", "F3x1", "F300p", "F301xp00000", "F301p20000", "F301p16000", "F301p0000x",
            "F301p00000 x", "F301d99", "F301cx0x", "F301q3q3"};
        int[] due = {0, 1, 2, 3, 4, 5, 6, 9, 10, 5, 5, 5};
        for (int i = 0; i < texts.length; i++) {
            TornPageLog log = new TornPageLog();
            Look.write(log, texts[i]);
            Check.same("errorPosition of " + texts[i], log.errorPosition(), due[i]);
            Check.badState(log, "load of " + texts[i], log::load);
        }
    }

    private static void storiesOf90() {
        String[] last = {"w", "s", "q2", "d15", "c99", "p15999"};
        for (String command : last) {
            TornPageLog log = new TornPageLog();
            Look.write(log, "F420" + "s".repeat(86 - command.length()) + command);
            Check.same("errorPosition of 90 characters with " + command, log.errorPosition(), -9);
            log.clearText();
            String text = "F420" + "s".repeat(87 - command.length()) + command;
            Look.write(log, text.substring(0, 90));
            boolean whole = command.length() == 1;
            Check.same("errorPosition of 90 characters that end in " + command, log.errorPosition(), whole ? -9 : 90);
        }
        TornPageLog log = new TornPageLog();
        Look.write(log, "F420" + "s".repeat(80) + "p15999");
        Check.same("load of 90 characters", log.load(), 80);
        Check.same("its last command", log.get(15), 999);
        log.clearText();
        Look.write(log, "F420" + "s".repeat(85) + "p");
        Check.same("errorPosition at the end of a full text", log.errorPosition(), 90);
        Check.badState(log, "load of a full text that ends too soon", log::load);
    }

    private static void loadOfEachSize() {
        TornPageLog log = new TornPageLog();
        for (int blocks = 3; blocks <= 8; blocks++) {
            for (String life : new String[] {"01", "09", "10", "99"}) {
                log.clearText();
                Look.write(log, "F" + blocks + life);
                Check.same("load of no commands", log.load(), 0);
                Check.same("B", log.about(0), blocks);
                Check.same("L", log.about(1), Integer.parseInt(life));
                Check.same("clean blocks", log.about(4), blocks);
            }
        }
    }

    private static void loadOfEachCommand() {
        TornPageLog log = Look.loaded("F420p00000p15999p10010");
        Check.same("load of puts", Look.chip(log),
                "0*[0:0@1 15:999@2 10:10@3 -] 0[- - - -] 0[- - - -] 0[- - - -]");
        Check.same("load of a removal", Look.chip(Look.loaded("F420p15123d15")),
                "0*[15:123@1x 15:d@2 - -] 0[- - - -] 0[- - - -] 0[- - - -]");
        Check.same("load of a sweep", Look.chip(Look.loaded("F420p00000p00000p00000p00000p00000w")),
                "1[- - - -] 0*[0:0@5 - - -] 0[- - - -] 0[- - - -]");
        Check.same("load of a cut", Look.loaded("F420c99").about(11), 99);
        Check.same("load of a cut that is set anew", Look.loaded("F420c99c01").about(11), 1);
        Check.same("load of no cut", Look.loaded("F420c99c00").about(11), 0);
        Check.same("load of a start", Look.chip(Look.loaded("F420p00000c01p00000s")),
                "0*[0:0@1 # - -] 0[- - - -] 0[- - - -] 0[- - - -]");
        for (int policy = 0; policy <= 2; policy++) {
            Check.same("load of a policy", Look.loaded("F420q1q" + policy).about(12), policy);
        }
    }

    private static void leftOut(String story, int due) {
        TornPageLog log = new TornPageLog();
        Look.write(log, story);
        Check.same("left out of " + story, log.load(), due);
    }

    private static void loadLeavesOutEachCommand() {
        leftOut("F420", 0);
        leftOut("F420d00", 1);
        leftOut("F420p00000d01", 1);
        leftOut("F420p00000d00d00", 1);
        leftOut("F420w", 1);
        leftOut("F420p00000p00000w", 1);
        leftOut("F420s", 1);
        leftOut("F420c01p00000s", 0);
        leftOut("F420c01p00000p00000", 1);
        leftOut("F420p00000c01p00000d00", 1);
        leftOut("F420c01p00000w", 1);
        leftOut("F420c01p00000c00", 1);
        leftOut("F420c01p00000c05", 1);
        leftOut("F420c01p00000q2", 0);
        leftOut("F420c01p00000ss", 1);
        leftOut("F301p00000p01000p02000p03000p04000p05000p06000p07000", 0);
        leftOut("F301p00000p01000p02000p03000p04000p05000p06000p07000p08000d00w", 3);
        leftOut("F420" + "w".repeat(86), 86);
    }

    private static void loadCountsPowerCutsNot() {
        leftOut("F420c01p00000", 0);
        leftOut("F420p00000c01d00", 0);
        leftOut("F420p00000p00000p00000p00000p00000c01w", 0);
        TornPageLog log = Look.loaded("F420p00000p00000p00000p00000p00000c01w");
        Check.same("the power behind it", log.about(2), 0);
        Check.same("a cut that falls in load", log.lastCut(1), 1);
    }

    private static void loadMakesAllNew() {
        Check.same("all is as in a new object:", Deep.of(TextEdges::loadedOverAll), Deep.of(() -> Look.loaded("F420")));
        TornPageLog off = Run.made("F520", "p00000 c01 p00000");
        Look.write(off, "F420p00000");
        Check.same("load while the power is off", off.load(), 0);
        Check.same("the power is on", off.about(2), 1);
        Check.same("no power cut so far", off.lastCut(0), -9);
    }

    /** F420, loaded over a chip on which all has been counted. */
    private static TornPageLog loadedOverAll() {
        TornPageLog log = Run.made("F520", "p00000 p01000 p00000 p00000 p00000 p02000 q2 w c01 p02001 s c09 p03000"
                + " S0 S1");
        Check.isTrue("all has been counted", log.about(7) * log.about(8) * log.about(9) * log.about(10) > 0);
        Look.write(log, "F420");
        Check.same("load over it", log.load(), 0);
        return log;
    }

    private static void loadIsNoAction() {
        TornPageLog log = new TornPageLog();
        Run.on(log, Run.times(14, "p00000"));
        Look.write(log, "F420p01000p02000");
        Run.same(log, "load forgets all, and its commands are not remembered", "L u", "0 state");
        Run.same(log, "an action behind load", "p03000 u u", "2 0 state");
        Check.same("what load has put is there", log.about(5), 2);
        Run.same(log, "both slots are empty behind load", "S0 S1 R0 R1 L R0 R1", "2 2 2 2 0 state state");
        Run.same(log, "one slot is saved behind load", "S1 R0 R1", "2 state 2");
    }

    private static void loadKeepsTheText() {
        TornPageLog log = Look.loaded("F307p00001p01002d00");
        String once = Look.at(log);
        Check.same("errorPosition behind load", log.errorPosition(), -9);
        log.put(4, 4);
        Check.same("load of the same text", log.load(), 0);
        Check.same("it makes the same:", Look.at(log), once);
        Check.same("append behind load", log.append('w'), 20);
        Check.same("load of the longer text", log.load(), 1);
        Check.same("the text behind it", log.clearText(), 20);
    }
}
