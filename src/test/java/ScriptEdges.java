/** Promises 26 and 27 at their edges: scripts and simulations. */
final class ScriptEdges {
    /** The inverse of the factor of simulate, modulo 2 to the power of 64. */
    private static final long INVERSE = inverse(6364136223846793005L);

    private ScriptEdges() {
    }

    static void run() {
        everyGroup();
        everyGroupWhenAllIsFull();
        whichOneFails();
        scriptsOfEachLength();
        digitsTooMany();
        commandsSeeEachOther();
        answersOf0();
        cutsInScripts();
        simulateRemoves();
        simulatePuts();
        simulateCuts();
        simulateSwitchesOn();
        simulateWithoutRoom();
        simulateCounts();
        simulateOfEachLength();
    }

    private static void everyGroup() {
        everyGroup("F420", "");
        everyGroup("F320", LookEdges.ONE_CLEAN);
        everyGroup("F520", "p03042 p00000 p09099 p01100 p02001 d01 " + Run.times(7, "p04007") + " w c01 w s w c07");
        everyGroup("F820", "p00000 p09009 d00 c01 p00001");
        everyGroup("F320", Run.times(4, "p00011"));
        everyGroup("F320", TermEdges.NO_CLEAN);
    }

    private static void everyGroupWhenAllIsFull() {
        everyGroup("F320", "p00000 p01001 p02002 p03003 p04004 p05005 p06006 p07099");
        everyGroup("F301", Run.times(20, "p05000"));
    }

    /** Each script of one command succeeds exactly if what there is tells that it must. */
    private static void everyGroup(String chip, String calls) {
        TornPageLog log = Run.made(chip, calls);
        TornPageLog asked = Run.made(chip, calls);
        for (int group = 0; group <= 9999; group++) {
            if (group % 100 == 0) {
                log = Run.made(chip, calls);
                asked = Run.made(chip, calls);
            }
            boolean due = succeeds(log, group / 1000, group / 100 % 10, group / 10 % 10, group % 10);
            Check.same("script " + group + " behind " + calls, asked.runScript(1, group), due ? -9 : 0);
        }
    }

    private static boolean succeeds(TornPageLog log, int d1, int d2, int d3, int d4) {
        boolean on = log.about(2) == 1;
        boolean zeros = d2 == 0 && d3 == 0;
        switch (d1) {
            case 1:
                return log.whyNoRoom() == 0;
            case 2:
                return d3 == 0 && d4 == 0 && log.whyNoRoom() == 0 && log.get(d2) != -9;
            case 3:
                return zeros && d4 == 0 && log.victim() != -9;
            case 4:
                return d2 == 0 && on;
            case 5:
                return zeros && d4 == 0 && !on;
            case 6:
                return on && log.get(d2) == 10 * d3 + d4;
            case 7:
                return d2 < log.about(0) && log.block(d2, 0) <= 10 * d3 + d4;
            case 8:
                return zeros && log.about(4) >= d4;
            case 9:
                return zeros && d4 <= 2;
            default:
                return false;
        }
    }

    private static void script(TornPageLog log, int n, long script, int due) {
        Check.same("runScript " + n + " " + script, log.runScript(n, script), due);
    }

    private static void whichOneFails() {
        TornPageLog log = Run.made("F420", "p00001");
        long fails = 6002;
        long succeeds = 6001;
        for (int n = 1; n <= 4; n++) {
            long all = 0;
            for (int i = 0; i < n; i++) {
                all = 10000 * all + succeeds;
            }
            script(log, n, all, -9);
            long unit = 1;
            for (int i = n - 1; i >= 0; i--) {
                script(log, n, all + (fails - succeeds) * unit, i);
                // What is behind the first that fails is not looked at.
                script(log, n, all - all % unit + (fails - succeeds) * unit, i);
                unit *= 10000;
            }
        }
    }

    private static void scriptsOfEachLength() {
        TornPageLog log = Run.made("F420", "p00001");
        for (int n = 1; n <= 4; n++) {
            script(log, n, 0, 0);
        }
        // With fewer digits, the zeros before them are commands that fail.
        script(log, 1, 6001, -9);
        script(log, 2, 6001, 0);
        script(log, 4, 600160016001L, 0);
        script(log, 3, 600160016001L, -9);
        script(log, 4, 6001600160016001L, -9);
        script(log, 1, 999, 0);
        script(log, 2, 60010000, 1);
        script(log, 2, 60010001, 1);
    }

    private static void digitsTooMany() {
        TornPageLog log = Run.made("F420", "p00001");
        script(log, 1, 9999, 0);
        Check.badArgument(log, "runScript 1 10000", () -> log.runScript(1, 10000));
        script(log, 2, 99999999, 0);
        Check.badArgument(log, "runScript 2 100000000", () -> log.runScript(2, 100000000));
        script(log, 3, 999999999999L, 0);
        Check.badArgument(log, "runScript 3 1000000000000", () -> log.runScript(3, 1000000000000L));
        script(log, 4, 9999999999999999L, 0);
        Check.badArgument(log, "runScript 4 10000000000000000", () -> log.runScript(4, 10000000000000000L));
        // The lower 32 bits of these are a script that succeeds.
        Check.badArgument(log, "runScript 1, more than an int", () -> log.runScript(1, (1L << 32) + 6001));
        Check.badArgument(log, "runScript 1, negative", () -> log.runScript(1, -6001));
        for (int n = -1; n <= 5; n += 6) {
            int wrong = n < 0 ? 0 : n;
            Check.badArgument(log, "runScript of so many: " + wrong, () -> log.runScript(wrong, 6001));
        }
    }

    private static void commandsSeeEachOther() {
        TornPageLog log = Run.made("F420", "p00001");
        script(log, 2, 19996999, -9);
        script(log, 2, 10006000, -9);
        script(log, 2, 20006001, 1);
        script(log, 3, 200010026002L, -9);
        script(log, 4, 2000100360032000L, -9);
        script(log, 3, 200020006001L, 1);
        // Block 0 is full with the third of them, and the fourth opens block 1.
        script(log, 4, 1000100010008003L, -9);
        script(log, 4, 1000100010008004L, 3);
        TornPageLog dead = Run.made("F420", Run.times(4, "p00000"));
        script(dead, 4, 1000300070018003L, -9);
        script(dead, 3, 100030007000L, 2);
        script(dead, 3, 100030003000L, 2);
        TornPageLog policies = Run.made("F520", "p03000 p03000 p04000 c02 p02000 p05000 s c01 w s");
        // With the policy 1 block 0 is swept, which is not torn; with the policies 0 and 2 block 1.
        script(policies, 3, 900130007100L, 2);
        script(policies, 3, 900130007000L, 2);
        script(policies, 3, 900130007101L, -9);
        script(policies, 3, 900230007000L, -9);
        script(policies, 3, 900030007101L, 2);
        script(policies, 3, 900030007102L, -9);
    }

    /** An answer of 0 is a success too. */
    private static void answersOf0() {
        TornPageLog log = Run.made("F420", "p02000 p03000 p03000 p01000 p00000 w p01000 w p00001 p01001 p02001 p03001");
        script(log, 1, 1005, -9);
        script(log, 1, 2000, -9);
        script(log, 2, 20006000, 1);
        Run.same(log, "the page 0", "d00", "0");
        TornPageLog cut = Run.made("F420", Run.times(5, "p00000"));
        script(cut, 4, 4000300090004000L, -9);
        TornPageLog off = Run.made("F420", "c01 p00000");
        script(off, 1, 5000, -9);
    }

    private static void cutsInScripts() {
        TornPageLog log = Run.made("F420", "p00001 c01");
        script(log, 2, 10026001, 1);
        script(log, 3, 100250006001L, -9);
        script(log, 3, 200050006001L, -9);
        script(log, 3, 400010026002L, -9);
        script(log, 4, 4002100210036003L, 3);
        script(log, 4, 4002100210035000L, -9);
        Check.same("the cut is still set", log.about(11), 1);
        TornPageLog dead = Run.made("F420", Run.times(5, "p00000"));
        script(dead, 4, 4001300050007001L, -9);
        script(dead, 4, 4001300050007000L, 3);
        script(dead, 4, 4001300050003000L, -9);
        TornPageLog off = Run.made("F420", "p00001 c01 p00002");
        script(off, 1, 1002, 0);
        script(off, 1, 6001, 0);
        script(off, 1, 5000, -9);
        script(off, 2, 50006001, -9);
        script(off, 2, 50005000, 1);
        script(off, 3, 900270008003L, -9);
        script(off, 1, 8004, 0);
        Check.same("the power is still off", off.about(2), 0);
    }

    private static long inverse(long odd) {
        long x = odd;
        for (int i = 0; i < 6; i++) {
            x *= 2 - odd * x;
        }
        return x;
    }

    /** The seed with which the first round's x has r in its highest 31 bits, and these in the others. */
    private static long seed(int r, long low) {
        return (((long) r << 33) + low - 1442695040888963407L) * INVERSE;
    }

    /** What one round with this r does. */
    private static void round(TornPageLog log, int r, int operations, int cuts, int keys) {
        for (long low : new long[] {0, 1L << 32, (1L << 33) - 1}) {
            Check.same("a round with " + r, log.simulate(seed(r, low), 1), 1000 * operations + 20 * cuts + keys);
        }
    }

    private static void simulateRemoves() {
        TornPageLog log = Run.made("F420", "p00001 p15001 p07001 d07");
        round(log, 0, 1, 0, 1);
        round(log, 8 * 15, 1, 0, 1);
        round(log, 8 * 16, 1, 0, 1);
        round(log, 8 * 31, 1, 0, 1);
        round(log, 8, 0, 0, 2);
        round(log, 8 * 14, 0, 0, 2);
        round(log, 8 * 7, 0, 0, 2);
        round(log, Integer.MAX_VALUE - 7, 1, 0, 1);
        Run.on(log, "c01");
        round(log, 0, 1, 1, 2);
        round(log, 8, 0, 0, 2);
    }

    private static void simulatePuts() {
        TornPageLog log = Run.made("F420", "p00001 p15001");
        for (int kind = 2; kind < 8; kind++) {
            round(log, kind, 1, 0, 2);
            round(log, kind + 8, 1, 0, 3);
            round(log, kind + 8 * 14, 1, 0, 3);
            round(log, kind + 8 * 15, 1, 0, 2);
            round(log, kind + 8 * 16, 1, 0, 2);
            round(log, kind + 128 * 999, 1, 0, 2);
            round(log, kind + 128 * 1000, 1, 0, 2);
        }
        round(log, Integer.MAX_VALUE, 1, 0, 2);
        round(log, 1 << 30 | 10, 1, 0, 3);
        Run.on(log, "c01");
        round(log, 10, 1, 1, 2);
        TornPageLog sweeps = Run.made("F320", LookEdges.ONE_CLEAN);
        round(sweeps, 2, 3, 0, 5);
        round(sweeps, 2 + 8 * 9, 3, 0, 6);
        round(sweeps, 0, 3, 0, 4);
    }

    /** The cut that the first round sets falls on its operation in the rounds behind it. */
    private static void simulateCuts() {
        for (int kind = 0; kind < 40; kind++) {
            TornPageLog log = Run.made("F820", "p00000");
            int r = 1 + 8 * kind;
            int on = 1 + kind % 20;
            round(log, r, 0, 0, 1);
            Calm calm = new Calm(r, on);
            Check.same("before the cut " + on, log.simulate(calm.seed, calm.rounds - 1), 1000 * (on - 1) + calm.keys);
            Check.same("behind the cut " + on, log.simulate(calm.seed, calm.rounds), 1000 * on + 20 + calm.keys);
        }
    }

    /** A seed with this r in the first round, and no cut set behind it until so many operations are done. */
    private static final class Calm {
        long seed;
        int rounds;

        /** How many keys have a value before the last of the operations; the key 0 has one at first. */
        int keys;

        Calm(int r, int operations) {
            long low = 0;
            do {
                seed = seed(r, low);
                low++;
            } while (!walk(operations));
        }

        private boolean walk(int operations) {
            int there = 1;
            int done = 0;
            long x = seed * 6364136223846793005L + 1442695040888963407L;
            rounds = 1;
            while (done < operations) {
                x = x * 6364136223846793005L + 1442695040888963407L;
                rounds++;
                int r = (int) (x >>> 33);
                int key = 1 << r / 8 % 16;
                keys = Integer.bitCount(there);
                if (r % 8 == 1) {
                    return false;
                }
                done += r % 8 > 1 || (there & key) != 0 ? 1 : 0;
                there = r % 8 > 1 ? there | key : there & ~key;
            }
            return rounds <= 99;
        }
    }

    private static void simulateSwitchesOn() {
        TornPageLog log = Run.made("F420", "p00001 p15001 c01 p00002");
        round(log, 2, 1, 0, 2);
        round(log, 2 + 8, 1, 0, 3);
        round(log, 0, 1, 0, 1);
        round(log, 8, 0, 0, 2);
        round(log, 1, 0, 0, 2);
        Check.same("the power is still off", log.about(2), 0);
        TornPageLog full = Run.made("F320", "p00000 p01000 p02000 p03000 p04000 p05000 p06000 c01 p07000");
        // Behind start the torn page can be swept.
        round(full, 2 + 8 * 9, 5, 0, 8);
    }

    private static void simulateWithoutRoom() {
        TornPageLog log = Run.made("F320", "p00000 p01000 p02000 p03000 p04000 p05000 p06000 p07000 c01");
        round(log, 0, 0, 0, 8);
        round(log, 2, 0, 0, 8);
        round(log, 2 + 8 * 15, 0, 0, 8);
        round(log, 1, 0, 0, 8);
        Check.same("all rounds without room", log.simulate(4711, 99), 8);
        TornPageLog vain = TermEdges.torn();
        Run.on(vain, "p05000 p06000 p07000 c01");
        round(vain, 2, 0, 0, 8);
        Check.same("all rounds when one sweep is not enough", vain.simulate(4711, 99), 8);
    }

    private static void simulateCounts() {
        TornPageLog log = Run.made("F320", "p00000 p01000 c01 p00000 s c02");
        Check.same("what was counted before is left out", log.simulate(seed(2, 0), 1), 1002);
        Run.on(log, "c01");
        Check.same("a power cut before is left out", log.simulate(seed(2, 0), 1), 1022);
        TornPageLog dead = Run.made("F320", Run.times(8, "p00000") + " c01");
        Check.same("an erasure that is cut is an operation", dead.simulate(seed(2, 0), 1), 1021);
        Run.on(dead, "c02");
        Check.same("an erasure and a torn page", dead.simulate(seed(2, 0), 1), 2021);
        Check.same("a new object", new TornPageLog().simulate(seed(8, 0), 1), 0);
    }

    private static void simulateOfEachLength() {
        TornPageLog log = Run.made("F420", "p00001");
        for (long seed : new long[] {0, 1, -1, Long.MIN_VALUE, Long.MAX_VALUE, seed(0, 0), seed(1 << 30, 1)}) {
            int before = 0;
            for (int m = 1; m <= 99; m += 14) {
                int got = log.simulate(seed, m);
                Check.isTrue("more rounds have no fewer operations", got / 1000 >= before);
                Check.isTrue("at most 16 keys", got % 20 <= 16);
                before = got / 1000;
            }
            Check.same("99 rounds as the calls do them", log.simulate(seed, 99), byCalls(seed, 99));
            Check.badArgument(log, "no rounds", () -> log.simulate(seed, 0));
            Check.badArgument(log, "100 rounds", () -> log.simulate(seed, 100));
        }
    }

    private static int byCalls(long seed, int m) {
        TornPageLog log = Run.made("F420", "p00001");
        long x = seed;
        for (int i = 0; i < m; i++) {
            x = x * 6364136223846793005L + 1442695040888963407L;
            int r = (int) (x >>> 33);
            if (log.about(2) == 0) {
                log.start();
            }
            if (r % 8 == 1) {
                log.cut(1 + r / 8 % 20);
            } else if (log.whyNoRoom() == 0 && r % 8 > 1) {
                log.put(r / 8 % 16, r / 128 % 1000);
            } else if (log.whyNoRoom() == 0 && log.get(r / 8 % 16) != -9) {
                log.remove(r / 8 % 16);
            }
        }
        return 1000 * (log.about(6) - 1) + 20 * log.about(10) + log.about(5);
    }
}
