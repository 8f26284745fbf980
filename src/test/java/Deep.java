import java.util.function.Supplier;

/**
 * All that can be found out of an object, also by calls that change it: each of those is tried on an object
 * of its own, which the recipe makes.
 */
final class Deep {
    private Deep() {
    }

    static String of(Supplier<TornPageLog> recipe) {
        StringBuilder all = new StringBuilder(Look.at(recipe.get()));
        undone(recipe, all);
        for (int slot = 0; slot < 2; slot++) {
            TornPageLog log = recipe.get();
            int s = slot;
            all.append("\nrestore ").append(Check.answer(() -> log.restore(s))).append('\n').append(Look.at(log));
        }
        nextMark(recipe.get(), all);
        text(recipe.get(), all);
        return all.toString();
    }

    /** What is looked at behind each undo is a new object, as a look takes many of the calls that an object has. */
    private static void undone(Supplier<TornPageLog> recipe, StringBuilder all) {
        int remembered = Look.remembered(recipe.get());
        for (int undos = 1; undos <= remembered; undos++) {
            TornPageLog log = recipe.get();
            for (int i = 0; i < undos; i++) {
                log.undo();
            }
            all.append("\nundo ").append(undos).append('\n').append(Look.at(log));
        }
        all.append("\nremembered ").append(remembered);
    }

    private static void nextMark(TornPageLog log, StringBuilder all) {
        if (log.about(2) == 1) {
            log.cut(0);
        }
        all.append("\nput ").append(Check.answer(() -> log.put(0, 1))).append(' ').append(Look.chip(log));
    }

    private static void text(TornPageLog log, StringBuilder all) {
        all.append("\nload ").append(Check.answer(log::load)).append('\n').append(Look.at(log));
        all.append("\nclearText ").append(log.clearText());
    }
}
