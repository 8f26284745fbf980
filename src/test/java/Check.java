import java.util.function.IntSupplier;

/** Counts what is as due and prints what is not. */
final class Check {
    static int passed;
    static int failed;

    private Check() {
    }

    static void same(String what, long got, long due) {
        if (got == due) {
            passed++;
        } else {
            wrong(what + " answered " + got + ", due is " + due);
        }
    }

    static void same(String what, String got, String due) {
        if (got.equals(due)) {
            passed++;
        } else {
            wrong(what + " gave\n  " + got + "\ndue is\n  " + due);
        }
    }

    static void isTrue(String what, boolean got) {
        same(what, got ? 1 : 0, 1);
    }

    static void wrong(String text) {
        failed++;
        System.out.println(text);
    }

    /** The answer of a call, or the name of the exception that it throws. */
    static String answer(IntSupplier call) {
        try {
            return String.valueOf(call.getAsInt());
        } catch (RuntimeException e) {
            return e.getClass().getSimpleName();
        }
    }

    /** A call that throws exactly this exception; Refusals looks closer at whether such calls change nothing. */
    static void refuses(TornPageLog log, String what, Class<? extends RuntimeException> due, IntSupplier call) {
        String before = Look.brief(log);
        same(what, answer(call), due.getSimpleName());
        same(what + " changes nothing:", Look.brief(log), before);
    }

    static void badArgument(TornPageLog log, String what, IntSupplier call) {
        refuses(log, what, IllegalArgumentException.class, call);
    }

    static void badState(TornPageLog log, String what, IntSupplier call) {
        refuses(log, what, IllegalStateException.class, call);
    }

    static void badIndex(TornPageLog log, String what, IntSupplier call) {
        refuses(log, what, IndexOutOfBoundsException.class, call);
    }
}
