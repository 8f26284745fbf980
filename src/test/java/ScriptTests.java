/** Promises 26 and 27: scripts and simulations. */
final class ScriptTests {
    private ScriptTests() {
    }

    static void run() {
        eachCommand();
        malformedGroups();
        orderOfGroups();
        powerCuts();
        onACopy();
        wrongArguments();
        simulate();
        simulateArguments();
    }

    /** Key 0 is 7, key 1 was removed, block 0 was erased once; two blocks are clean. */
    private static TornPageLog some() {
        return Look.loaded("F420p00001p00002p01003d01p00007w");
    }

    private static void eachCommand() {
        TornPageLog log = some();
        Check.same("block 0 was erased", log.block(0, 0), 1);
        group(log, 1099, true);
        group(log, 1900, true);
        group(log, 2000, true);
        group(log, 2100, false);
        group(log, 2500, false);
        group(log, 3000, false);
        group(log, 4000, true);
        group(log, 4099, true);
        group(log, 5000, false);
        group(log, 6007, true);
        group(log, 6008, false);
        group(log, 6100, false);
        group(log, 6200, false);
        group(log, 7001, true);
        group(log, 7000, false);
        group(log, 7100, true);
        group(log, 7399, true);
        group(log, 7499, false);
        group(log, 7999, false);
        group(log, 8000, true);
        group(log, 8003, true);
        group(log, 8004, false);
        group(log, 9000, true);
        group(log, 9002, true);
        group(log, 9003, false);
        group(log, 9009, false);
    }

    private static void malformedGroups() {
        TornPageLog log = some();
        for (int group : new int[] {0, 1, 999, 2001, 2010, 3001, 3010, 3100, 4100, 4900, 5001, 5010, 5100, 8010,
            8100, 9010, 9100}) {
            group(log, group, false);
        }
        log.put(1, 1);
        group(log, 2100, true);
        group(log, 2101, false);
        group(log, 2110, false);
        log.cut(1);
        log.put(2, 2);
        group(log, 5000, true);
        group(log, 5001, false);
        group(log, 5010, false);
        group(log, 5100, false);
    }

    private static void group(TornPageLog log, int group, boolean succeeds) {
        Check.same("script " + group, log.runScript(1, group), succeeds ? -9 : 0);
    }

    private static void orderOfGroups() {
        TornPageLog log = some();
        Check.same("zeros before a script", log.runScript(4, 1099L), 0);
        Check.same("all succeed", log.runScript(4, 1555655520006555L), -9);
        Check.same("the last fails", log.runScript(4, 1555655525006555L), 3);
        Check.same("the second fails", log.runScript(2, 10076008L), 1);
        Check.same("the first fails", log.runScript(2, 60081008L), 0);
        Check.same("one sees what others did", log.runScript(3, 155565551644L), -9);
        Check.same("the greatest script", log.runScript(4, 9999999999999999L), 0);
        Check.same("the policy of a script", log.runScript(4, 9002900190009003L), 3);
        // A sweep with something to sweep: blocks are clean again, and worn.
        Check.same("puts and a sweep", log.runScript(4, 1001100210033000L), -9);
        Check.same("a sweep wears", log.runScript(1, 3000L), 0);
    }

    private static void powerCuts() {
        TornPageLog log = some();
        Check.same("a put that is cut succeeds", log.runScript(4, 4001109960076007L), 2);
        Check.same("start behind a cut", log.runScript(4, 4001109950006007L), -9);
        Check.same("what was cut is not there", log.runScript(4, 4001109950006099L), 3);
        Check.same("a put while the power is off", log.runScript(3, 400110991099L), 2);
        Check.same("a cut while the power is off", log.runScript(3, 400110994001L), 2);
        Check.same("a remove while the power is off", log.runScript(3, 400110992000L), 2);
        Check.same("a sweep while the power is off", log.runScript(3, 400110993000L), 2);
        Check.same("a policy while the power is off", log.runScript(3, 400110999001L), -9);
        Check.same("wear while the power is off", log.runScript(3, 400110997001L), -9);
        Check.same("clean blocks while the power is off", log.runScript(3, 400110998002L), -9);
        Check.same("a cut that is taken back", log.runScript(4, 4001400010996099L), -9);
        TornPageLog sweeps = Look.loaded("F420p00000p00000p00000p00000p00000c01");
        Check.same("a sweep that is cut succeeds", sweeps.runScript(2, 30005000L), -9);
        Check.same("it wears the block", sweeps.runScript(2, 30007000L), 1);
    }

    private static void onACopy() {
        TornPageLog log = some();
        String before = Look.at(log);
        log.runScript(4, 4001100190015000L);
        Check.same("runScript changes nothing:", Look.at(log), before);
        log.simulate(1, 99);
        Check.same("simulate changes nothing:", Look.at(log), before);
        Check.badState(log, "undo: scripts are no actions", log::undo);
    }

    private static void wrongArguments() {
        TornPageLog log = some();
        Check.badArgument(log, "no commands", () -> log.runScript(0, 0));
        Check.badArgument(log, "5 commands", () -> log.runScript(5, 0));
        Check.badArgument(log, "least commands", () -> log.runScript(Integer.MIN_VALUE, 0));
        Check.badArgument(log, "a negative script", () -> log.runScript(1, -1));
        Check.badArgument(log, "the least script", () -> log.runScript(4, Long.MIN_VALUE));
        Check.badArgument(log, "the greatest number", () -> log.runScript(4, Long.MAX_VALUE));
        long limit = 1;
        for (int n = 1; n <= 4; n++) {
            limit *= 10000;
            int commands = n;
            long tooMuch = limit;
            Check.badArgument(log, "a digit too many for " + n, () -> log.runScript(commands, tooMuch));
            Check.same("all digits for " + n, log.runScript(n, limit - 1), 0);
        }
    }

    /** What simulate says is what the calls themselves do, one after the other. */
    private static void simulate() {
        for (int seed = -40; seed < 40; seed++) {
            TornPageLog log = Look.loaded(seed % 2 == 0 ? "F320p00001c03p00002" : "F505p03001p03002p01003c04");
            int m = 1 + (seed + 40) * 98 / 79;
            int due = log.simulate(seed, m);
            int operations = log.about(6);
            int cuts = log.about(10);
            long x = seed;
            for (int i = 0; i < m; i++) {
                x = x * 6364136223846793005L + 1442695040888963407L;
                round(log, (int) (x >>> 33));
            }
            int got = 1000 * (log.about(6) - operations) + 20 * (log.about(10) - cuts) + log.about(5);
            Check.same("the rounds of simulate " + seed + " " + m, due, got);
        }
        // With the seed 0, r is 167951807 in the first round.
        Check.same("a round that puts", new TornPageLog().simulate(0, 1), 1001);
    }

    private static void round(TornPageLog log, int r) {
        if (log.about(2) == 0) {
            log.start();
        }
        int key = (r >> 3) & 15;
        int kind = r & 7;
        if (kind == 0) {
            Check.answer(() -> log.remove(key));
        } else if (kind == 1) {
            log.cut(1 + (r >> 3) % 20);
        } else {
            Check.answer(() -> log.put(key, (r >> 7) % 1000));
        }
    }

    private static void simulateArguments() {
        TornPageLog log = some();
        Check.badArgument(log, "no rounds", () -> log.simulate(0, 0));
        Check.badArgument(log, "100 rounds", () -> log.simulate(0, 100));
        Check.badArgument(log, "-1 rounds", () -> log.simulate(0, -1));
        Check.same("any seed", log.simulate(Long.MIN_VALUE, 1), log.simulate(Long.MIN_VALUE, 1));
        log.cut(1);
        Check.same("a cut that is set falls in a round", log.simulate(0, 1), 1021);
        log.put(0, 0);
        Check.same("a round switches the power on", log.simulate(0, 1), 1002);
        TornPageLog full = new TornPageLog();
        for (int i = 0; i < 12; i++) {
            full.put(i, 0);
        }
        Check.same("nothing is done with no room", full.simulate(3, 99), 12);
    }
}
