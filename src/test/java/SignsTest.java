/** Promises 9 to 12: suspicion, sign, setMark, worst. */
public final class SignsTest {
    public static void main(String[] args) {
        promise9Suspicion();
        promise9SuspicionRefused();
        promise10NearBid();
        promise10PassedWork();
        promise10WithdrawnBid();
        promise10Turn();
        promise10TurnLooksBack();
        promise10AllAddedUp();
        promise10SignRefused();
        promise11SetMark();
        promise12Worst();
        Checks.end();
    }

    private static void promise9Suspicion() {
        Watched x = new Watched();
        x.contest(0, 1000, 1, 1050);
        Checks.same("suspicion(0, 1)", x.suspicion(0, 1), 2);
        x.contest(1, 1000, 0, 1050);
        Checks.same("suspicion(0, 1) after a turn", x.suspicion(0, 1), 8);
        Checks.same("suspicion(1, 0) is the same", x.suspicion(1, 0), 8);
        Checks.same("suspicion of others", x.suspicion(0, 2), 0);
        int third = x.contest(5, 1000, 6, 2000);
        x.passOn(third, 6, 1);
        Checks.same("suspicion(5, 6)", x.suspicion(6, 5), 3);
        Checks.same("suspicion(0, 1) without a change", x.suspicion(0, 1), 8);
        int open = x.open();
        x.bid(open, 0, 1000);
        x.bid(open, 1, 1001);
        Checks.same("an open tender counts nothing", x.suspicion(0, 1), 8);
    }

    private static void promise9SuspicionRefused() {
        Watched x = new Watched();
        x.contest(0, 1000, 1, 1050);
        x.refusedArgument("suspicion(-1, 0)", () -> x.suspicion(-1, 0));
        x.refusedArgument("suspicion(7, 0)", () -> x.suspicion(7, 0));
        x.refusedArgument("suspicion(0, -1)", () -> x.suspicion(0, -1));
        x.refusedArgument("suspicion(0, 7)", () -> x.suspicion(0, 7));
        x.refusedArgument("suspicion(0, 0)", () -> x.suspicion(0, 0));
        x.refusedArgument("suspicion(6, 6)", () -> x.suspicion(6, 6));
    }

    private static void near(int winning, int above, int due) {
        Watched x = new Watched();
        int tender = x.contest(3, winning, 5, winning + above);
        Checks.same("a bid " + above + " above " + winning, x.sign(tender, 3, 5), due);
        Checks.same("the same for the pair turned round", x.sign(tender, 5, 3), due);
    }

    private static void promise10NearBid() {
        near(1000, 0, 0);
        near(1000, 1, 2);
        near(1000, 50, 2);
        near(1000, 51, 0);
        near(19, 1, 0);
        near(20, 1, 2);
        near(39, 1, 2);
        near(39, 2, 0);
        near(40, 2, 2);
        near(1, 1, 0);
        near(95238, 4761, 2);
        near(95238, 4762, 0);
        near(99999, 1, 2);
        Watched x = new Watched();
        int tender = x.open();
        x.bid(tender, 0, 1000);
        x.bid(tender, 1, 1010);
        x.bid(tender, 2, 1020);
        Checks.same("an open tender counts nothing", x.sign(tender, 0, 1), 0);
        x.award(tender);
        Checks.same("winner and second", x.sign(tender, 0, 1), 2);
        Checks.same("winner and third", x.sign(tender, 0, 2), 2);
        Checks.same("a pair that has not won", x.sign(tender, 1, 2), 0);
        Checks.same("one that did not bid", x.sign(tender, 0, 6), 0);
    }

    private static void promise10PassedWork() {
        Watched x = new Watched();
        int stands = x.contest(0, 1000, 1, 5000);
        Checks.same("a far bid", x.sign(stands, 0, 1), 0);
        x.passOn(stands, 1, 10);
        Checks.same("passed on to one that stands", x.sign(stands, 0, 1), 3);
        Checks.same("another pair of the winner", x.sign(stands, 0, 2), 0);
        Checks.same("the pair without the winner", x.sign(stands, 1, 2), 0);
        int absent = x.contest(0, 1000, 2, 5000);
        x.passOn(absent, 3, 10);
        Checks.same("passed on to one without a bid", x.sign(absent, 0, 3), 0);
        Checks.same("the one to whom it was not passed on", x.sign(absent, 0, 2), 0);
        int gone = x.open();
        x.bid(gone, 4, 900);
        x.bid(gone, 5, 1);
        x.withdraw(gone, 5);
        x.award(gone);
        x.passOn(gone, 5, 10);
        Checks.same("passed on to one that has withdrawn", x.sign(gone, 5, 4), 4);
    }

    private static void promise10WithdrawnBid() {
        Watched x = new Watched();
        int tender = x.open();
        x.bid(tender, 6, 1000);
        x.bid(tender, 0, 1010);
        x.withdraw(tender, 0);
        Checks.same("an open tender counts nothing", x.sign(tender, 0, 6), 0);
        x.award(tender);
        Checks.same("a withdrawn bid is not near, but counts", x.sign(tender, 0, 6), 1);
        int empty = x.open();
        x.bid(empty, 6, 1000);
        x.bid(empty, 0, 1010);
        x.withdraw(empty, 0);
        x.withdraw(empty, 6);
        x.award(empty);
        Checks.same("a void tender counts nothing", x.sign(empty, 0, 6), 0);
        Checks.same("the sum of both", x.suspicion(0, 6), 1);
    }

    private static void promise10Turn() {
        Watched x = new Watched();
        int first = x.contest(0, 1000, 1, 2000);
        Checks.same("no turn before the first", x.sign(first, 0, 1), 0);
        int again = x.contest(0, 1000, 1, 2000);
        Checks.same("the same winner is no turn", x.sign(again, 0, 1), 0);
        int turn = x.contest(0, 2000, 1, 1000);
        Checks.same("a turn", x.sign(turn, 0, 1), 4);
        int alone = x.open();
        x.bid(alone, 0, 1000);
        x.award(alone);
        Checks.same("no turn if one does not stand", x.sign(alone, 0, 1), 0);
        int withdrawn = x.open();
        x.bid(withdrawn, 0, 1000);
        x.bid(withdrawn, 1, 900);
        x.withdraw(withdrawn, 1);
        x.award(withdrawn);
        Checks.same("no turn if one has withdrawn", x.sign(withdrawn, 0, 1), 1);
        int back = x.contest(0, 1000, 1, 2000);
        Checks.same("tenders in which not both stand are passed over", x.sign(back, 0, 1), 4);
        int third = x.open();
        x.bid(third, 0, 1000);
        x.bid(third, 1, 1000);
        x.bid(third, 2, 500);
        x.award(third);
        int behind = x.contest(0, 2000, 1, 1000);
        Checks.same("a third one won the last in which both stood", x.sign(behind, 0, 1), 0);
    }

    private static void promise10TurnLooksBack() {
        Watched x = new Watched();
        int low = x.open();
        x.bid(low, 0, 1000);
        x.bid(low, 1, 2000);
        int high = x.contest(0, 2000, 1, 1000);
        Checks.same("a lower tender that is open does not count", x.sign(high, 0, 1), 0);
        x.award(low);
        Checks.same("it counts as soon as it is awarded", x.sign(high, 0, 1), 4);
        Checks.same("a higher tender awarded before does not", x.sign(low, 0, 1), 0);
        Checks.same("suspicion follows", x.suspicion(0, 1), 4);
    }

    private static void promise10AllAddedUp() {
        Watched x = new Watched();
        x.contest(0, 1000, 1, 2000);
        int tender = x.contest(0, 1050, 1, 1000);
        x.passOn(tender, 0, 1000);
        Checks.same("near, passed on and a turn", x.sign(tender, 1, 0), 9);
        Checks.same("suspicion", x.suspicion(1, 0), 9);
    }

    private static void promise10SignRefused() {
        Watched x = new Watched();
        x.contest(0, 1000, 1, 1050);
        x.refusedIndex("sign(-1, 0, 1)", () -> x.sign(-1, 0, 1));
        x.refusedIndex("sign(1, 0, 1)", () -> x.sign(1, 0, 1));
        x.refusedIndex("sign(1, 7, 7)", () -> x.sign(1, 7, 7));
        x.refusedIndex("sign(30, 0, 1)", () -> x.sign(30, 0, 1));
        x.refusedArgument("sign(0, -1, 1)", () -> x.sign(0, -1, 1));
        x.refusedArgument("sign(0, 7, 1)", () -> x.sign(0, 7, 1));
        x.refusedArgument("sign(0, 1, -1)", () -> x.sign(0, 1, -1));
        x.refusedArgument("sign(0, 1, 7)", () -> x.sign(0, 1, 7));
        x.refusedArgument("sign(0, 1, 1)", () -> x.sign(0, 1, 1));
    }

    private static void promise11SetMark() {
        Watched x = new Watched();
        Checks.same("setMark(1)", x.setMark(1), 10);
        Checks.same("setMark(1000)", x.setMark(1000), 1);
        x.refusedArgument("setMark(0)", () -> x.setMark(0));
        x.refusedArgument("setMark(1001)", () -> x.setMark(1001));
        x.refusedArgument("setMark(-1)", () -> x.setMark(-1));
        Checks.same("setMark(7)", x.setMark(7), 1000);
        Checks.same("setMark(7) again", x.setMark(7), 7);
    }

    private static void promise12Worst() {
        Watched x = new Watched();
        x.open();
        x.award(0);
        Checks.same("no pair has any", x.worst(), -1);
        x.contest(6, 1000, 5, 1050);
        Checks.same("the last pair", x.worst(), 56);
        x.contest(4, 1000, 2, 1050);
        Checks.same("of equal ones the least", x.worst(), 24);
        x.contest(5, 2000, 6, 1000);
        Checks.same("turn of nobody", x.worst(), 24);
        x.contest(5, 1000, 6, 2000);
        Checks.same("the greatest", x.worst(), 56);
        x.contest(0, 1000, 1, 1050);
        Checks.same("a lower pair with less", x.worst(), 56);
        x.contest(1, 1000, 0, 2000);
        Checks.same("a lower pair with as much", x.worst(), 1);
        x.contest(2, 1000, 4, 1001);
        Checks.same("another pair has more then", x.worst(), 24);
    }
}
