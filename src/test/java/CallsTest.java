import java.util.function.LongSupplier;

/** An object is used for 512 calls: the last of them answers as the first would, whatever it is and came before. */
public final class CallsTest {
    private static final int BEFORE_THE_LAST = Watched.CALLS - 1;

    public static void main(String[] args) {
        lastOfTenders();
        lastOfSigns();
        lastOfFiles();
        lastThatIsRefused();
        allOpens();
        allRefused();
        allQuestions();
        longestRun();
        Checks.end();
    }

    /** A watch with all kinds of tenders, an open file 0 and a closed file 1, after 511 calls. */
    private static Watched beforeTheLast() {
        Watched x = new Watched();
        x.setMark(2);
        x.near(0, 1);
        x.near(1, 0);
        x.open();
        x.bid(2, 3, 700);
        x.open();
        x.award(3);
        x.near(0, 6);
        x.file(0, 1);
        x.file(6, 0);
        x.tell(0, 1, 0);
        x.compensate(0, 250);
        x.close(1);
        x.compensate(6, 8);
        for (int number = 0; x.calls() < BEFORE_THE_LAST; number++) {
            without(x, number);
        }
        Checks.same("calls before the last", x.calls(), BEFORE_THE_LAST);
        return x;
    }

    /** A call that changes nothing, questions and refused ones by turns. */
    private static void without(Watched x, int number) {
        switch (number % 8) {
            case 0 -> Checks.same("worst", x.worst(), 1);
            case 1 -> refused(() -> x.award(3), "IllegalStateException");
            case 2 -> Checks.same("suspicion", x.suspicion(0, 1), 8);
            case 3 -> refused(() -> x.bid(2, 3, 1), "IllegalStateException");
            case 4 -> Checks.same("tell", x.tell(0, 0, 0), false);
            case 5 -> refused(() -> x.compensate(7, 1), "IllegalArgumentException");
            case 6 -> Checks.same("turnover", x.turnover(0), 2000);
            default -> refused(() -> x.passOn(5, 0, 1), "IndexOutOfBoundsException");
        }
    }

    private static void refused(LongSupplier made, String exception) {
        Checks.same("a refused call on the way", Checks.answer(made), "throws." + exception);
    }

    private static void lastOfTenders() {
        Checks.same("open", beforeTheLast().open(), 5);
        Checks.same("bid", beforeTheLast().bid(2, 4, 700), 2);
        Checks.same("withdraw", beforeTheLast().withdraw(2, 3), 700);
        Checks.same("award", beforeTheLast().award(2), 3);
        Checks.same("passOn", beforeTheLast().passOn(1, 0, 1000), 1);
        Checks.same("turnover", beforeTheLast().turnover(1), 1000);
        Checks.same("won", beforeTheLast().won(0), 2);
    }

    private static void lastOfSigns() {
        Checks.same("suspicion", beforeTheLast().suspicion(6, 0), 2);
        Checks.same("sign", beforeTheLast().sign(1, 0, 1), 6);
        Checks.same("setMark", beforeTheLast().setMark(1000), 2);
        Checks.same("worst", beforeTheLast().worst(), 1);
    }

    private static void lastOfFiles() {
        Watched x = new Watched();
        x.near(5, 6);
        x.setMark(2);
        while (x.calls() < BEFORE_THE_LAST) {
            x.worst();
        }
        Checks.same("file", x.file(5, 6), 0);
        Checks.same("matters", beforeTheLast().matters(0), 2);
        Checks.same("tell", beforeTheLast().tell(0, 0, 1), true);
        Checks.same("compensate", beforeTheLast().compensate(0, 100000), 100050);
        Checks.same("close: 200 less 50, and nothing", beforeTheLast().close(0), 150);
        Checks.same("fine: 200 less 200", beforeTheLast().fine(1, 0), 0);
        Checks.same("firstTeller", beforeTheLast().firstTeller(0), 1);
    }

    private static void lastThatIsRefused() {
        Watched x = beforeTheLast();
        refused(() -> x.tell(1, 0, 0) ? 1 : 0, "IllegalStateException");
        Watched y = beforeTheLast();
        refused(() -> y.file(0, 1), "IllegalStateException");
        Watched z = beforeTheLast();
        refused(() -> z.fine(0, 2), "IllegalArgumentException");
    }

    private static void allOpens() {
        Watched x = new Watched();
        for (int call = 0; call < Watched.CALLS; call++) {
            Checks.same("open", Checks.answer(x::open), call < 30 ? "" + call : "throws.IllegalStateException");
        }
    }

    private static void allRefused() {
        Watched x = new Watched();
        while (x.calls() < BEFORE_THE_LAST) {
            refused(() -> x.bid(0, 0, 1), "IndexOutOfBoundsException");
        }
        Checks.same("the first open is the last call", x.open(), 0);
    }

    private static void allQuestions() {
        Watched x = new Watched();
        x.near(2, 6);
        while (x.calls() < Watched.CALLS) {
            Checks.same("worst", x.worst(), 26);
        }
    }

    /** All tenders with all bidders, and with what else fits: 30 * (1 + 7 + 6 + 3) = 510 calls, and 2. */
    private static void longestRun() {
        Watched x = new Watched();
        for (int tender = 0; tender < 30; tender++) {
            Checks.same("open", x.open(), tender);
            for (int bidder = 0; bidder < 7; bidder++) {
                Checks.same("bid", x.bid(tender, bidder, 100000 - bidder), bidder + 1);
            }
            for (int bidder = 0; bidder < 6; bidder++) {
                Checks.same("withdraw", x.withdraw(tender, 6 - bidder), 100000 - 6 + bidder);
            }
            Checks.same("award", x.award(tender), 0);
            Checks.same("passOn", x.passOn(tender, 6, 99999), 0);
            Checks.same("won", x.won(0), tender + 1);
        }
        Checks.same("all have withdrawn, and 6 gets the work", x.suspicion(0, 6), 30 * 4);
        Checks.same("the last call", x.turnover(6), 30 * 99999);
        Checks.same("calls", x.calls(), Watched.CALLS);
    }
}
