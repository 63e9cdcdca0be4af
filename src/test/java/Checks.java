import java.util.Arrays;
import java.util.function.LongSupplier;

/** Compares answers with those that are due, and ends the test with exit code 1 if one differs. */
final class Checks {
    private static int wrong = 0;
    private static int made = 0;

    private Checks() {
    }

    static void same(String call, long got, long due) {
        made++;
        if (got != due) {
            wrong++;
            System.out.println(call + " answered " + got + ", due is " + due);
        }
    }

    static void same(String call, String got, String due) {
        made++;
        if (!got.equals(due)) {
            wrong++;
            System.out.println(call + " answered " + got + ", due is " + due);
        }
    }

    static void same(String call, boolean got, boolean due) {
        same(call, got ? 1 : 0, due ? 1 : 0);
    }

    /** The answer as text: the number, or throws. and the exception's name. */
    static String answer(LongSupplier call) {
        try {
            return Long.toString(call.getAsLong());
        } catch (RuntimeException e) {
            return "throws." + e.getClass().getSimpleName();
        }
    }

    /** Numbers that are not from the least to the most: next to them, far away, and some whose low bits fit. */
    static int[] outside(int least, int most) {
        int[] candidates = {
            Integer.MIN_VALUE, Integer.MIN_VALUE + least, -65536 + least, -most, -1, 0, least - 1,
            most + 1, least + 32, least + 256, least + 65536, 1000000, least + (1 << 24), Integer.MAX_VALUE,
        };
        return Arrays.stream(candidates).filter(number -> number < least || number > most).distinct().toArray();
    }

    static void end() {
        System.out.println(made + " checks, " + wrong + " wrong");
        if (wrong != 0 || made == 0) {
            System.exit(1);
        }
    }
}
