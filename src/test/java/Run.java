import java.util.function.IntSupplier;

/**
 * Runs calls that are written as a text, parted by blanks: the commands of a story (p00123 d00 w c05 s q1),
 * and u: undo, S0 and S1: save, R0 and R1: restore, L: load.
 */
final class Run {
    private Run() {
    }

    /** The answers, parted by blanks; of an exception the first word of its name, in small letters. */
    static String on(TornPageLog log, String calls) {
        StringBuilder answers = new StringBuilder();
        for (String call : calls.split(" ")) {
            answers.append(answers.length() > 0 ? " " : "").append(shortAnswer(callOf(log, call)));
        }
        return answers.toString();
    }

    /** The answers are as due. */
    static void same(TornPageLog log, String what, String calls, String due) {
        Check.same(what + ": " + calls, on(log, calls), due);
    }

    /** A chip of this size and life (like F420) on which these calls were made; none of them may throw. */
    static TornPageLog made(String chip, String calls) {
        TornPageLog log = Look.loaded(chip);
        log.clearText();
        if (!calls.isEmpty()) {
            String answers = on(log, calls);
            if (answers.matches(".*[a-z].*")) {
                Check.wrong("a call throws that is to make a chip: " + calls + " answered " + answers);
            }
        }
        return log;
    }

    /** The same calls so many times. */
    static String times(int n, String calls) {
        return (calls + " ").repeat(n).trim();
    }

    static String shortAnswer(IntSupplier call) {
        return shortName(Check.answer(call));
    }

    static String shortName(String answer) {
        return answer.replace("IllegalArgumentException", "argument").replace("IllegalStateException", "state")
                .replace("IndexOutOfBoundsException", "index");
    }

    private static IntSupplier callOf(TornPageLog log, String call) {
        switch (call.charAt(0)) {
            case 'p':
                return () -> log.put(number(call, 1, 3), number(call, 3, 6));
            case 'd':
                return () -> log.remove(number(call, 1, 3));
            case 'w':
                return log::sweep;
            case 'c':
                return () -> log.cut(number(call, 1, 3));
            case 's':
                return log::start;
            case 'q':
                return () -> log.setPolicy(number(call, 1, 2));
            case 'u':
                return log::undo;
            case 'S':
                return () -> log.save(number(call, 1, 2));
            case 'R':
                return () -> log.restore(number(call, 1, 2));
            case 'L':
                return log::load;
            default:
                throw new AssertionError("no call is written " + call);
        }
    }

    private static int number(String call, int from, int to) {
        return Integer.parseInt(call.substring(from, to));
    }
}
