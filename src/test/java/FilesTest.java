/** Promises 13 to 19: file, matters, tell, compensate, close, fine, firstTeller. */
public final class FilesTest {
    public static void main(String[] args) {
        promise13File();
        promise13OnePerPair();
        promise13AtMost20();
        promise13FileRefused();
        promise14Matters();
        promise15Tell();
        promise15TellRefused();
        promise16Compensate();
        promise17CloseWithoutTelling();
        promise17FirstTellerByHalf();
        promise17OtherByQuarter();
        promise17TurnoverWhenClosed();
        promise17CloseRefused();
        promise18Fine();
        promise18FineLowered();
        promise18PaidOnceOnly();
        promise19FirstTeller();
        Checks.end();
    }

    /** A watch with a file 0 of the bidders 0 and 1 that has that many matters, all won by 0 for 1000. */
    private static Watched watchWithMatters(int matters) {
        Watched x = new Watched();
        x.setMark(1);
        for (int tender = 0; tender < matters; tender++) {
            x.near(0, 1);
        }
        x.file(0, 1);
        return x;
    }

    private static void promise13File() {
        Watched x = new Watched();
        for (int tender = 0; tender < 5; tender++) {
            x.refusedState("file below the mark", () -> x.file(4, 2));
            x.near(4, 2);
        }
        Checks.same("suspicion", x.suspicion(4, 2), 10);
        x.setMark(11);
        x.refusedState("file one below the mark", () -> x.file(4, 2));
        x.setMark(10);
        Checks.same("file at the mark", x.file(4, 2), 0);
        x.setMark(1);
        x.refusedState("file of a pair without suspicion", () -> x.file(0, 6));
        x.near(0, 6);
        Checks.same("the next file", x.file(0, 6), 1);
    }

    private static void promise13OnePerPair() {
        Watched x = watchWithMatters(3);
        x.refusedState("a second file", () -> x.file(0, 1));
        x.refusedState("a second file, turned round", () -> x.file(1, 0));
        x.close(0);
        x.refusedState("a file after a closed one", () -> x.file(1, 0));
        x.near(0, 2);
        Checks.same("another pair with one of them", x.file(2, 0), 1);
    }

    private static void promise13AtMost20() {
        Watched x = new Watched();
        x.setMark(1);
        for (int winner = 0; winner < 6; winner++) {
            int tender = x.open();
            for (int bidder = winner; bidder < 7; bidder++) {
                x.bid(tender, bidder, bidder == winner ? 1000 : 1010);
            }
            x.award(tender);
        }
        int due = 0;
        for (int one = 0; one < 6; one++) {
            for (int other = one + 1; other < 7; other++) {
                if (due < 20) {
                    Checks.same("file " + one + other, x.file(other, one), due);
                    due++;
                }
            }
        }
        Checks.same("the last pair has suspicion", x.suspicion(5, 6), 2);
        x.refusedState("the 21st file", () -> x.file(5, 6));
        x.close(0);
        x.refusedState("the 21st file after one is closed", () -> x.file(5, 6));
        x.refusedArgument("the 21st file of no pair", () -> x.file(5, 5));
        Checks.same("the last file is there", x.matters(19), 1);
        x.refusedIndex("matters(20)", () -> x.matters(20));
    }

    private static void promise13FileRefused() {
        Watched x = new Watched();
        x.refusedArgument("file(-1, 0)", () -> x.file(-1, 0));
        x.refusedArgument("file(7, 0)", () -> x.file(7, 0));
        x.refusedArgument("file(0, -1)", () -> x.file(0, -1));
        x.refusedArgument("file(0, 7)", () -> x.file(0, 7));
        x.refusedArgument("file(3, 3)", () -> x.file(3, 3));
        x.refusedState("file(0, 1)", () -> x.file(0, 1));
        x.near(0, 1);
        x.setMark(2);
        Checks.same("no number was used up", x.file(0, 1), 0);
        x.refusedArgument("file(0, 0) with a file", () -> x.file(0, 0));
    }

    private static void promise14Matters() {
        Watched x = new Watched();
        x.setMark(1);
        x.near(0, 1);
        int far = x.open();
        x.bid(far, 0, 1000);
        x.bid(far, 1, 5000);
        x.award(far);
        x.near(0, 2);
        x.near(1, 0);
        Checks.same("file", x.file(0, 1), 0);
        Checks.same("the tenders that count", x.matters(0), 2);
        x.near(0, 1);
        x.passOn(far, 1, 1);
        Checks.same("both count for the suspicion", x.sign(far, 0, 1), 3);
        Checks.same("later signs are no matters", x.matters(0), 2);
        x.tell(0, 0, 0);
        x.close(0);
        Checks.same("matters of a closed file", x.matters(0), 2);
        x.refusedIndex("matters(-1)", () -> x.matters(-1));
        x.refusedIndex("matters(1)", () -> x.matters(1));
        x.refusedIndex("matters(20)", () -> x.matters(20));
    }

    private static void promise15Tell() {
        Watched x = new Watched();
        x.setMark(1);
        x.near(3, 5);
        x.near(3, 5);
        x.near(3, 6);
        x.file(5, 3);
        x.file(3, 6);
        Checks.same("a matter is new", x.tell(0, 3, 1), true);
        Checks.same("told by the same", x.tell(0, 3, 1), false);
        Checks.same("told by the other", x.tell(0, 5, 1), false);
        Checks.same("none of the matters", x.tell(0, 5, 2), false);
        Checks.same("another file knows nothing of it", x.tell(1, 3, 2), true);
        int later = x.near(5, 3);
        Checks.same("a tender that came later", x.tell(0, 5, later), false);
        int open = x.open();
        Checks.same("an open tender", x.tell(0, 5, open), false);
        Checks.same("the other matter, by the other", x.tell(0, 5, 0), true);
    }

    private static void promise15TellRefused() {
        Watched x = watchWithMatters(2);
        x.refusedIndex("tell(-1, 0, 0)", () -> x.tell(-1, 0, 0) ? 1 : 0);
        x.refusedIndex("tell(1, 7, 0)", () -> x.tell(1, 7, 0) ? 1 : 0);
        x.refusedIndex("tell(0, 0, -1)", () -> x.tell(0, 0, -1) ? 1 : 0);
        x.refusedIndex("tell(0, 2, 2)", () -> x.tell(0, 2, 2) ? 1 : 0);
        x.refusedIndex("tell(0, 0, 30)", () -> x.tell(0, 0, 30) ? 1 : 0);
        x.refusedArgument("tell(0, 2, 0)", () -> x.tell(0, 2, 0) ? 1 : 0);
        x.refusedArgument("tell(0, -1, 0)", () -> x.tell(0, -1, 0) ? 1 : 0);
        x.refusedArgument("tell(0, 7, 0)", () -> x.tell(0, 7, 0) ? 1 : 0);
        Checks.same("nothing was told", x.tell(0, 1, 0), true);
        x.close(0);
        x.refusedState("tell in a closed file", () -> x.tell(0, 0, 1) ? 1 : 0);
        x.refusedArgument("tell(0, 2, 1), closed", () -> x.tell(0, 2, 1) ? 1 : 0);
        x.refusedIndex("tell(0, 2, 2), closed", () -> x.tell(0, 2, 2) ? 1 : 0);
    }

    private static void promise16Compensate() {
        Watched x = new Watched();
        Checks.same("compensate(0, 1)", x.compensate(0, 1), 1);
        Checks.same("compensate(0, 100000)", x.compensate(0, 100000), 100001);
        Checks.same("compensate(6, 5)", x.compensate(6, 5), 5);
        x.refusedArgument("compensate(-1, 1)", () -> x.compensate(-1, 1));
        x.refusedArgument("compensate(7, 1)", () -> x.compensate(7, 1));
        x.refusedArgument("compensate(0, 0)", () -> x.compensate(0, 0));
        x.refusedArgument("compensate(0, -1)", () -> x.compensate(0, -1));
        x.refusedArgument("compensate(0, 100001)", () -> x.compensate(0, 100001));
        Checks.same("a refused payment is not counted", x.compensate(0, 9), 100010);
        Watched many = new Watched();
        for (int call = 1; call <= 500; call++) {
            Checks.same("payment " + call, many.compensate(3, 100000), 100000L * call);
        }
    }

    private static void promise17CloseWithoutTelling() {
        Watched x = new Watched();
        x.setMark(1);
        x.contest(0, 1019, 1, 1020);
        x.contest(1, 509, 0, 510);
        x.file(0, 1);
        Checks.same("close", x.close(0), 101 + 50);
        Checks.same("a tenth, rounded down", x.fine(0, 0), 101);
        Checks.same("a tenth of the other", x.fine(0, 1), 50);
    }

    /** Closes a file of that many matters after the first teller has told some; its turnover is 1000 each and 30. */
    private static void firstTeller(int matters, int tellings, int due) {
        Watched x = new Watched();
        x.setMark(1);
        for (int tender = 0; tender < matters; tender++) {
            x.near(0, 1);
        }
        int extra = x.open();
        x.bid(extra, 0, 30);
        x.award(extra);
        x.file(0, 1);
        for (int tender = 0; tender < tellings; tender++) {
            x.tell(0, 0, tender);
            x.tell(0, 0, tender);
        }
        x.tell(0, 0, extra);
        String call = "close with " + tellings + " of " + matters + " told";
        Checks.same(call, x.close(0), due);
        Checks.same("fine by " + call, x.fine(0, 0), due);
        Checks.same("the other one has no turnover", x.fine(0, 1), 0);
    }

    private static void promise17FirstTellerByHalf() {
        firstTeller(1, 0, 103);
        firstTeller(1, 1, 0);
        firstTeller(2, 0, 203);
        firstTeller(2, 1, 0);
        firstTeller(3, 1, 151);
        firstTeller(3, 2, 0);
        firstTeller(5, 2, 251);
        firstTeller(5, 3, 0);
        firstTeller(6, 3, 0);
        firstTeller(6, 2, 301);
    }

    private static void promise17OtherByQuarter() {
        Watched x = new Watched();
        x.setMark(1);
        x.contest(1, 1039, 0, 1040);
        x.contest(1, 30, 0, 31);
        x.contest(0, 1000, 1, 1001);
        x.file(0, 1);
        Checks.same("the near ones are the matters", x.matters(0), 3);
        x.tell(0, 0, 0);
        x.tell(0, 1, 1);
        x.tell(0, 1, 2);
        Checks.same("close", x.close(0), 50 + 80);
        Checks.same("the first teller pays half", x.fine(0, 0), 50);
        Checks.same("106 less a quarter, rounded down", x.fine(0, 1), 80);
        Watched silent = watchWithMatters(4);
        silent.tell(0, 1, 0);
        silent.tell(0, 0, 0);
        Checks.same("a telling that is not new is no leniency", silent.close(0), 400);
    }

    private static void promise17TurnoverWhenClosed() {
        Watched x = watchWithMatters(1);
        x.contest(0, 5000, 2, 5001);
        x.passOn(1, 1, 500);
        Checks.same("turnover as it is when closed", x.close(0), 550 + 50);
        x.contest(0, 5000, 2, 5001);
        x.passOn(0, 1, 1000);
        Checks.same("the fine stays", x.fine(0, 0), 550);
        Checks.same("the fine of the other stays", x.fine(0, 1), 50);
    }

    private static void promise17CloseRefused() {
        Watched x = watchWithMatters(1);
        x.refusedIndex("close(-1)", () -> x.close(-1));
        x.refusedIndex("close(1)", () -> x.close(1));
        x.refusedIndex("close(20)", () -> x.close(20));
        x.compensate(0, 60);
        Checks.same("close", x.close(0), 40);
        x.compensate(0, 10);
        x.refusedState("close twice", () -> x.close(0));
        Checks.same("nothing was taken again", x.compensate(0, 1), 11);
    }

    private static void promise18Fine() {
        Watched x = watchWithMatters(2);
        Checks.same("no fine before the file is closed", x.fine(0, 0), 0);
        x.refusedIndex("fine(-1, 0)", () -> x.fine(-1, 0));
        x.refusedIndex("fine(1, 7)", () -> x.fine(1, 7));
        x.refusedArgument("fine(0, 2)", () -> x.fine(0, 2));
        x.refusedArgument("fine(0, -1)", () -> x.fine(0, -1));
        x.refusedArgument("fine(0, 7)", () -> x.fine(0, 7));
        x.close(0);
        Checks.same("the fine", x.fine(0, 0), 200);
        x.refusedArgument("fine(0, 2), closed", () -> x.fine(0, 2));
    }

    private static void promise18FineLowered() {
        Watched x = watchWithMatters(2);
        x.compensate(0, 150);
        x.compensate(1, 70);
        x.compensate(2, 1000);
        Checks.same("payments do not open a fine", x.fine(0, 0), 0);
        Checks.same("close", x.close(0), 50);
        Checks.same("the fine less the payment", x.fine(0, 0), 50);
        Checks.same("a fine of nothing takes nothing", x.fine(0, 1), 0);
        Checks.same("payment of 0 is used up", x.compensate(0, 10), 10);
        Checks.same("payment of 1 is left", x.compensate(1, 1), 71);
        Checks.same("payment of others is left", x.compensate(2, 1), 1001);
        Checks.same("a later payment takes nothing", x.fine(0, 0), 50);
    }

    private static void promise18PaidOnceOnly() {
        Watched x = new Watched();
        x.setMark(1);
        x.contest(0, 1000, 1, 1001);
        x.contest(0, 1000, 2, 1001);
        x.contest(0, 1000, 3, 1001);
        x.file(0, 1);
        x.file(0, 2);
        x.file(0, 3);
        x.compensate(0, 450);
        Checks.same("as far as the fine goes", x.close(1), 0);
        Checks.same("the rest is taken from the next", x.close(0), 150);
        Checks.same("nothing is left for the last", x.close(2), 300);
        Checks.same("fine of the first closed", x.fine(1, 0), 0);
        Checks.same("fine of the second closed", x.fine(0, 0), 150);
        Watched lenient = watchWithMatters(4);
        lenient.tell(0, 0, 0);
        lenient.compensate(0, 150);
        Checks.same("leniency comes before the payment", lenient.close(0), 50);
        Watched spared = watchWithMatters(1);
        spared.tell(0, 0, 0);
        spared.compensate(0, 30);
        Checks.same("a teller that pays nothing", spared.close(0), 0);
        Checks.same("keeps what it has paid", spared.compensate(0, 1), 31);
    }

    private static void promise19FirstTeller() {
        Watched x = watchWithMatters(2);
        int other = x.near(2, 3);
        Checks.same("nobody at first", x.firstTeller(0), -1);
        x.tell(0, 0, other);
        Checks.same("a telling that is not new makes no first teller", x.firstTeller(0), -1);
        x.tell(0, 1, 1);
        Checks.same("the first whose telling was new", x.firstTeller(0), 1);
        x.tell(0, 0, 0);
        Checks.same("it stays the first", x.firstTeller(0), 1);
        x.close(0);
        Checks.same("it stays so in a closed file", x.firstTeller(0), 1);
        x.file(2, 3);
        Checks.same("each file has its own", x.firstTeller(1), -1);
        x.refusedIndex("firstTeller(-1)", () -> x.firstTeller(-1));
        x.refusedIndex("firstTeller(2)", () -> x.firstTeller(2));
        x.refusedIndex("firstTeller(20)", () -> x.firstTeller(20));
    }
}
