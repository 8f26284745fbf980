import java.util.Random;
import java.util.function.IntSupplier;

/** Compares long runs of calls on the class with the same calls on the Model. */
final class ModelTest {
    private static final int[] ODD = {Integer.MIN_VALUE, -10, -9, -2, -1, 16, 17, 32, 100, 256, 1000, 1001,
        Integer.MAX_VALUE};

    /** Behind these nothing is promised of an object. */
    private static final int MOST_CALLS = 512;

    private final Random random;
    private final TornPageLog log = new TornPageLog();
    private final Model model = new Model();
    private final StringBuilder calls = new StringBuilder();
    private final boolean hostile;
    private final int cutWeight;
    private boolean fine = true;
    private int made;

    /** What only looks is not told in the run. */
    private boolean looking;

    private ModelTest(long seed) {
        random = new Random(seed);
        hostile = seed % 3 == 0;
        cutWeight = random.nextInt(4);
    }

    /** The property "runs" sets how many runs there are. */
    static void run() {
        int runs = Integer.getInteger("runs", 600);
        for (int seed = 0; seed < runs; seed++) {
            new ModelTest(seed).oneRun();
        }
    }

    private void oneRun() {
        if (random.nextInt(5) > 0) {
            load();
        }
        while (fine && made < MOST_CALLS - 120) {
            step();
            for (int i = random.nextInt(4); i > 1; i--) {
                look();
            }
        }
        while (fine && made < MOST_CALLS) {
            look();
        }
        if (fine) {
            Check.passed++;
        }
    }

    private void same(String call, IntSupplier got, IntSupplier due) {
        if (made == MOST_CALLS) {
            return;
        }
        made++;
        String g = Check.answer(got);
        String d = Check.answer(due);
        if (!looking) {
            calls.append("\n  ").append(call).append(" = ").append(d);
        }
        if (fine && !g.equals(d)) {
            fine = false;
            Check.wrong("a run of the class that is not as the model's:" + calls
                    + "\n  " + call + ": the class says " + g + ", the model " + d);
        }
    }

    /** Mostly 0 to bound - 1, now and then anything. */
    private int number(int bound) {
        return hostile && random.nextInt(25) == 0 ? ODD[random.nextInt(ODD.length)] : random.nextInt(bound);
    }

    private int key() {
        return random.nextInt(3) == 0 ? number(16) : number(5);
    }

    private void step() {
        int kind = random.nextInt(100);
        int a = key();
        int v = number(1000);
        if (kind < 40) {
            same("put " + a + " " + v, () -> log.put(a, v), () -> model.put(a, v));
        } else if (kind < 52) {
            same("remove " + a, () -> log.remove(a), () -> model.remove(a));
        } else if (kind < 60) {
            same("sweep", log::sweep, model::sweep);
        } else if (kind < 60 + cutWeight) {
            int n = number(12);
            same("cut " + n, () -> log.cut(n), () -> model.cut(n));
        } else if (kind < 70) {
            same("start", log::start, model::start);
        } else if (kind < 73) {
            int p = number(3);
            same("setPolicy " + p, () -> log.setPolicy(p), () -> model.setPolicy(p));
        } else if (kind < 76) {
            for (int i = random.nextInt(4) == 0 ? 16 : 1; i > 0; i--) {
                same("undo", log::undo, model::undo);
            }
        } else if (kind < 79) {
            slot();
        } else if (kind < 80) {
            // A chip without room has little more to show.
            if (random.nextInt(4) == 0 || model.whyNoRoom() > 1) {
                load();
            }
        } else {
            question(kind, a, v);
        }
    }

    private void question(int kind, int a, int v) {
        if (kind < 84) {
            int n = 1 + number(12);
            same("afterCut " + a + " " + v + " " + n, () -> log.afterCut(a, v, n), () -> model.afterCut(a, v, n));
        } else if (kind < 86) {
            same("lasts " + a, () -> log.lasts(a), () -> model.lasts(a));
        } else if (kind < 92) {
            script();
        } else if (kind < 95) {
            long seed = random.nextLong();
            int m = number(100);
            same("simulate " + seed + " " + m, () -> log.simulate(seed, m), () -> model.simulate(seed, m));
        } else {
            same("victim", log::victim, model::victim);
            same("whyNoRoom", log::whyNoRoom, model::whyNoRoom);
            same("operations", log::operations, model::operations);
            same("oldest", log::oldest, model::oldest);
            same("get " + a, () -> log.get(a), () -> model.get(a));
        }
    }

    private void slot() {
        int s = number(2);
        if (random.nextInt(3) > 0) {
            same("save " + s, () -> log.save(s), () -> model.save(s));
        } else {
            same("restore " + s, () -> log.restore(s), () -> model.restore(s));
        }
    }

    private void script() {
        int n = hostile && random.nextInt(10) == 0 ? random.nextInt(8) - 1 : 1 + random.nextInt(4);
        long script = 0;
        for (int i = 0; i < n; i++) {
            script = script * 10000 + group();
        }
        if (hostile && random.nextInt(10) == 0) {
            script = random.nextBoolean() ? random.nextLong() : script * 10 + 1;
        }
        long s = script;
        same("runScript " + n + " " + s, () -> log.runScript(n, s), () -> model.runScript(n, s));
    }

    private int group() {
        int x = random.nextInt(10);
        int k = random.nextInt(4);
        switch (random.nextInt(12)) {
            case 0:
                return random.nextInt(10000);
            case 1:
                return 2000 + 100 * k;
            case 2:
                return 3000;
            case 3:
                return 4000 + x;
            case 4:
                return 5000;
            case 5:
                return 6000 + 100 * k + Math.max(0, value(k)) % 100;
            case 6:
                return 7000 + 100 * random.nextInt(9) + x;
            case 7:
                return 8000 + random.nextInt(4);
            case 8:
                return 9000 + random.nextInt(4);
            default:
                return 1000 + 100 * k + x;
        }
    }

    private int value(int key) {
        String value = Check.answer(() -> model.get(key));
        return value.startsWith("I") ? 0 : Integer.parseInt(value);
    }

    private void load() {
        same("clearText", log::clearText, model::clearText);
        String story = "F" + (3 + random.nextInt(random.nextBoolean() ? 6 : 2));
        story += random.nextInt(4) == 0 ? "" + (10 + random.nextInt(90)) : "0" + (1 + random.nextInt(9));
        while (random.nextInt(12) > 0) {
            story += command();
        }
        if (hostile && random.nextInt(3) == 0) {
            int at = random.nextInt(story.length());
            story = story.substring(0, at) + (char) random.nextInt(256) + story.substring(at + random.nextInt(2));
        }
        for (int i = 0; i < story.length(); i++) {
            int c = story.charAt(i);
            same("append " + c, () -> log.append(c), () -> model.append(c));
            if (random.nextInt(10) == 0) {
                same("errorPosition", log::errorPosition, model::errorPosition);
            }
        }
        same("errorPosition", log::errorPosition, model::errorPosition);
        same("load", log::load, model::load);
    }

    private String command() {
        switch (random.nextInt(8)) {
            case 0:
                return String.format("d%02d", random.nextInt(5));
            case 1:
                return "w";
            case 2:
                return String.format("c%02d", random.nextInt(9));
            case 3:
                return "s";
            case 4:
                return "q" + random.nextInt(3);
            default:
                return String.format("p%02d%03d", random.nextInt(5), random.nextInt(1000));
        }
    }

    /** One number of what there is. */
    private void look() {
        looking = true;
        int what = number(6);
        int page = number(4 * model.about(0) + 1);
        int block = number(model.about(0) + 1);
        int key = number(16);
        switch (random.nextInt(12)) {
            case 0:
            case 1:
                int n = number(14);
                same("about " + n, () -> log.about(n), () -> model.about(n));
                break;
            case 2:
                same("lastCut " + what, () -> log.lastCut(what), () -> model.lastCut(what));
                break;
            case 3:
                same("keyAt " + key, () -> log.keyAt(key), () -> model.keyAt(key));
                break;
            case 4:
                same("get " + key, () -> log.get(key), () -> model.get(key));
                break;
            case 5:
                same("newest " + key, () -> log.newest(key), () -> model.newest(key));
                break;
            case 6:
                same("lasts " + key, () -> log.lasts(key), () -> model.lasts(key));
                break;
            case 7:
            case 8:
                same("block " + block + " " + what, () -> log.block(block, what), () -> model.block(block, what));
                break;
            default:
                same("page " + page + " " + what, () -> log.page(page, what), () -> model.page(page, what));
        }
        looking = false;
    }
}
