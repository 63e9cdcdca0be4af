import java.util.function.LongSupplier;

/** Compares answers with those that are due, and ends the test with exit code 1 if one differs. */
final class Checks {
    private static int wrong = 0;
    private static int made = 0;

    private Checks() {
    }

    static void same(String call, long got, long due) {
        made++;
        if (got != due) {
            wrong++;
            System.out.println(call + " answered " + got + ", due is " + due);
        }
    }

    static void same(String call, String got, String due) {
        made++;
        if (!got.equals(due)) {
            wrong++;
            System.out.println(call + " answered " + got + ", due is " + due);
        }
    }

    static void same(String call, boolean got, boolean due) {
        same(call, got ? 1 : 0, due ? 1 : 0);
    }

    /** The answer as text: the number, or throws. and the exception's name. */
    static String answer(LongSupplier call) {
        try {
            return Long.toString(call.getAsLong());
        } catch (RuntimeException e) {
            return "throws." + e.getClass().getSimpleName();
        }
    }

    private static void refused(CartelWatch watch, String call, LongSupplier made, String exception) {
        String before = picture(watch);
        same(call, answer(made), "throws." + exception);
        same("all that can be asked after the refused " + call, picture(watch), before);
    }

    static void refusedIndex(CartelWatch watch, String call, LongSupplier made) {
        refused(watch, call, made, "IndexOutOfBoundsException");
    }

    static void refusedArgument(CartelWatch watch, String call, LongSupplier made) {
        refused(watch, call, made, "IllegalArgumentException");
    }

    static void refusedState(CartelWatch watch, String call, LongSupplier made) {
        refused(watch, call, made, "IllegalStateException");
    }

    /** All that can be asked of a watch without changing it. */
    static String picture(CartelWatch watch) {
        StringBuilder text = new StringBuilder();
        int mark = watch.setMark(1);
        watch.setMark(mark);
        text.append("mark ").append(mark).append(" worst ").append(watch.worst());
        for (int one = 0; one < 7; one++) {
            text.append(" bidder ").append(watch.turnover(one)).append(' ').append(watch.won(one));
            for (int other = 0; other < 7; other++) {
                pictureOfPair(watch, one, other, text);
            }
        }
        for (int number = 0; number < 21; number++) {
            pictureOfFile(watch, number, text);
        }
        return text.toString();
    }

    private static void pictureOfPair(CartelWatch watch, int one, int other, StringBuilder text) {
        if (one == other) {
            return;
        }
        text.append(" pair ").append(watch.suspicion(one, other));
        for (int number = 0; number < 31; number++) {
            int tender = number;
            text.append(' ').append(answer(() -> watch.sign(tender, one, other)));
        }
    }

    private static void pictureOfFile(CartelWatch watch, int file, StringBuilder text) {
        text.append(" file ").append(answer(() -> watch.matters(file)));
        text.append(' ').append(answer(() -> watch.firstTeller(file)));
        for (int number = 0; number < 7; number++) {
            int bidder = number;
            text.append(' ').append(answer(() -> watch.fine(file, bidder)));
        }
    }

    static void end() {
        System.out.println(made + " checks, " + wrong + " wrong");
        if (wrong != 0 || made == 0) {
            System.exit(1);
        }
    }
}
