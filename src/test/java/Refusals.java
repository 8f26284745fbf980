import java.util.LinkedHashMap;
import java.util.Map;
import java.util.function.Supplier;
import java.util.function.ToIntFunction;

/**
 * EXCEPTIONS: each call that throws, in chips of several kinds, throws what its description names, the first one
 * if several apply, and changes nothing: not the state, not what is remembered or saved, and not the text.
 */
final class Refusals {
    private static final int LEAST = Integer.MIN_VALUE;
    private static final int MOST = Integer.MAX_VALUE;

    private final Map<String, Supplier<TornPageLog>> chips = new LinkedHashMap<>();
    private final Map<String, String> before = new LinkedHashMap<>();

    private Refusals() {
        chips.put("new", TornPageLog::new);
        chips.put("busy", Refusals::busy);
        chips.put("off", Refusals::off);
        chips.put("full", Refusals::full);
        chips.put("worn", Refusals::worn);
        for (Map.Entry<String, Supplier<TornPageLog>> chip : chips.entrySet()) {
            before.put(chip.getKey(), Deep.of(chip.getValue()));
        }
    }

    static void run() {
        Refusals r = new Refusals();
        r.chipsAreAsMeant();
        r.text();
        r.looks();
        r.actions();
        r.questions();
        r.scripts();
        r.slots();
    }

    /** 14 remembered states, both slots saved, a cut that is set, room, and a text that is a story. */
    private static TornPageLog busy() {
        TornPageLog log = Look.loaded("F420p00111q1d00");
        Run.on(log, "p01010 p02020 S0 p02021 d01 p03030 p04040 S1 q2 c20 p05050 w p05051 p05052 p06060 p06061 c07"
                + " p07070");
        return log;
    }

    /** As busy, and the power was cut in a sweep. */
    private static TornPageLog off() {
        TornPageLog log = busy();
        Run.on(log, "c01 w");
        return log;
    }

    /** Three blocks of live records and a clean one; a cut is set, and the text is full and no story. */
    private static TornPageLog full() {
        TornPageLog log = new TornPageLog();
        Look.write(log, "x".repeat(90));
        for (int key = 0; key < 12; key++) {
            log.put(key, key);
        }
        log.cut(1);
        return log;
    }

    /** No room: what has dead pages is worn out. The text is full, and a story. */
    private static TornPageLog worn() {
        TornPageLog log = Look.loaded("F301" + "w".repeat(86));
        Run.on(log, Run.times(10, "p00000") + " " + Run.times(10, "p00001") + " S1");
        return log;
    }

    private void chipsAreAsMeant() {
        String[] chip = {"new", "busy", "off", "full", "worn"};
        int[] why = {0, 0, 1, 2, 3};
        int[] remembered = {0, 14, 14, 13, 14};
        for (int i = 0; i < chip.length; i++) {
            TornPageLog log = chips.get(chip[i]).get();
            Check.same("whyNoRoom of " + chip[i], log.whyNoRoom(), why[i]);
            Check.same("remembered of " + chip[i], Look.remembered(log), remembered[i]);
        }
        Check.same("a block can be swept of busy", busy().victim(), 1);
        Check.same("the cut of busy", busy().about(11), 6);
        Check.same("the latest cut of off", off().lastCut(2), 1);
    }

    /** In each of these chips, of which the names are parted by blanks, the call throws this and changes nothing. */
    private void refuses(String names, String call, String due, ToIntFunction<TornPageLog> made) {
        for (String name : names.split(" ")) {
            Supplier<TornPageLog> chip = chips.get(name);
            String what = call + " on " + name;
            Check.same(what, Run.shortAnswer(() -> made.applyAsInt(chip.get())), due);
            String after = Deep.of(() -> {
                TornPageLog log = chip.get();
                Check.answer(() -> made.applyAsInt(log));
                return log;
            });
            Check.same(what + " changes nothing:", after, before.get(name));
        }
    }

    private void everywhere(String call, String due, ToIntFunction<TornPageLog> made) {
        refuses("new busy off full worn", call, due, made);
    }

    private void text() {
        for (int c : new int[] {-1, 256, LEAST, MOST}) {
            everywhere("append " + c, "argument", log -> log.append(c));
        }
        for (int c : new int[] {0, 'F', 255}) {
            refuses("full worn", "append " + c + " to a full text", "state", log -> log.append(c));
        }
        refuses("new full", "load of no story", "state", TornPageLog::load);
    }

    private void looks() {
        for (int wrong : new int[] {-1, 14, LEAST, MOST}) {
            everywhere("about " + wrong, "argument", log -> log.about(wrong));
        }
        for (int wrong : new int[] {-1, 5, LEAST, MOST}) {
            everywhere("page 0 " + wrong, "argument", log -> log.page(0, wrong));
            everywhere("page 11 " + wrong, "argument", log -> log.page(11, wrong));
        }
        for (int wrong : new int[] {-1, 16, LEAST, MOST}) {
            everywhere("page " + wrong, "index", log -> log.page(wrong, 0));
            everywhere("page of two wrong arguments " + wrong, "index", log -> log.page(wrong, 5));
            everywhere("get " + wrong, "argument", log -> log.get(wrong));
            everywhere("newest " + wrong, "argument", log -> log.newest(wrong));
        }
        refuses("worn", "page 12 of 3 blocks", "index", log -> log.page(12, 0));
        for (int wrong : new int[] {-1, 6, LEAST, MOST}) {
            everywhere("block 0 " + wrong, "argument", log -> log.block(0, wrong));
            everywhere("block 2 " + wrong, "argument", log -> log.block(2, wrong));
        }
        for (int wrong : new int[] {-1, 4, LEAST, MOST}) {
            everywhere("block " + wrong, "index", log -> log.block(wrong, 0));
            everywhere("block of two wrong arguments " + wrong, "index", log -> log.block(wrong, -1));
        }
        refuses("worn", "block 3 of 3 blocks", "index", log -> log.block(3, 0));
        refuses("off", "get 0", "state", log -> log.get(0));
        refuses("off", "get 15", "state", log -> log.get(15));
        for (int wrong : new int[] {-1, LEAST}) {
            everywhere("keyAt " + wrong, "argument", log -> log.keyAt(wrong));
        }
        for (int wrong : new int[] {-1, 3, LEAST, MOST}) {
            everywhere("lastCut " + wrong, "argument", log -> log.lastCut(wrong));
        }
    }

    private void actions() {
        for (int wrong : new int[] {-1, 16, LEAST, MOST}) {
            everywhere("put of the key " + wrong, "argument", log -> log.put(wrong, 0));
            everywhere("remove " + wrong, "argument", log -> log.remove(wrong));
        }
        for (int wrong : new int[] {-9, -1, 1000, LEAST, MOST}) {
            everywhere("put of the value " + wrong, "argument", log -> log.put(0, wrong));
        }
        refuses("off full worn", "put 0 0", "state", log -> log.put(0, 0));
        refuses("off full worn", "put 15 999", "state", log -> log.put(15, 999));
        refuses("off full worn", "remove of a key with a value", "state", log -> log.remove(log.keyAt(0)));
        everywhere("remove of a key that never was", "state", log -> log.remove(15));
        refuses("busy off", "remove of a removed key", "state", log -> log.remove(1));
        refuses("new off full worn", "sweep", "state", TornPageLog::sweep);
        for (int wrong : new int[] {-1, 100, LEAST, MOST}) {
            everywhere("cut " + wrong, "argument", log -> log.cut(wrong));
        }
        for (int n : new int[] {0, 1, 99}) {
            refuses("off", "cut " + n, "state", log -> log.cut(n));
        }
        refuses("new busy full worn", "start", "state", TornPageLog::start);
        for (int wrong : new int[] {-1, 3, LEAST, MOST}) {
            everywhere("setPolicy " + wrong, "argument", log -> log.setPolicy(wrong));
        }
        refuses("new", "undo", "state", TornPageLog::undo);
    }

    private void questions() {
        refuses("off full worn", "operations", "state", TornPageLog::operations);
        for (int wrong : new int[] {-1, 16, LEAST, MOST}) {
            everywhere("afterCut of the key " + wrong, "argument", log -> log.afterCut(wrong, 0, 1));
            everywhere("lasts " + wrong, "argument", log -> log.lasts(wrong));
        }
        for (int wrong : new int[] {-1, 1000, LEAST, MOST}) {
            everywhere("afterCut of the value " + wrong, "argument", log -> log.afterCut(0, wrong, 1));
        }
        for (int wrong : new int[] {-1, 0, 100, LEAST, MOST}) {
            everywhere("afterCut at " + wrong, "argument", log -> log.afterCut(0, 0, wrong));
        }
        refuses("off full worn", "afterCut 0 0 1", "state", log -> log.afterCut(0, 0, 1));
        refuses("off full worn", "afterCut 15 999 99", "state", log -> log.afterCut(15, 999, 99));
    }

    private void scripts() {
        for (int wrong : new int[] {-1, 0, 5, LEAST, MOST}) {
            everywhere("runScript of so many: " + wrong, "argument", log -> log.runScript(wrong, 0));
        }
        for (long wrong : new long[] {-1, Long.MIN_VALUE, Long.MAX_VALUE, 10000000000000000L}) {
            everywhere("runScript 4 " + wrong, "argument", log -> log.runScript(4, wrong));
        }
        everywhere("runScript 1 10000", "argument", log -> log.runScript(1, 10000));
        everywhere("runScript 2 100000000", "argument", log -> log.runScript(2, 100000000));
        everywhere("runScript 3 1000000000000", "argument", log -> log.runScript(3, 1000000000000L));
        for (int wrong : new int[] {-1, 0, 100, LEAST, MOST}) {
            everywhere("simulate of so many rounds: " + wrong, "argument", log -> log.simulate(1, wrong));
        }
    }

    private void slots() {
        for (int wrong : new int[] {-1, 2, LEAST, MOST}) {
            everywhere("save " + wrong, "index", log -> log.save(wrong));
            everywhere("restore " + wrong, "index", log -> log.restore(wrong));
        }
        refuses("new full worn", "restore 0", "state", log -> log.restore(0));
        refuses("new full", "restore 1", "state", log -> log.restore(1));
    }
}
