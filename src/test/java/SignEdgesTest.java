/** The edges of promises 9 to 12, both sides of each: suspicion, sign, setMark, worst. */
public final class SignEdgesTest {
    private static final int MIN = Integer.MIN_VALUE;
    private static final int MAX = Integer.MAX_VALUE;

    public static void main(String[] args) {
        promise9PairRange();
        promise9BothTheSame();
        promise9SumOverAllTenders();
        promise9OnlyAwardedTenders();
        promise9GreatestSuspicion();
        promise10TenderRange();
        promise10PairRange();
        promise10OrderOfExceptions();
        promise10NothingIfNotAwarded();
        promise10NearByHundredths();
        promise10NearMustBeMore();
        promise10NearOnlyIfItStands();
        promise10NearOfEachWinner();
        promise10PassedToTheOther();
        promise10PassedToAThird();
        promise10WithdrawnByTheOther();
        promise10TurnNeedsBothInIt();
        promise10TurnNeedsALowerNumber();
        promise10TurnByTheHighestNumber();
        promise10TurnPassesOverOthers();
        promise10TurnOfAThird();
        promise10TurnByNumberNotByTime();
        promise10TurnWithEqualBids();
        promise10TurnOfAWithdrawnBid();
        promise10EachSumOfSigns();
        promise11MarkRange();
        promise11MarkBefore();
        promise11MarkAndSuspicion();
        promise12NoneHasAny();
        promise12LeastSuspicion();
        promise12EachPair();
        promise12EqualPairs();
        promise12OneMore();
        Checks.end();
    }

    private static void promise9PairRange() {
        Watched x = new Watched();
        x.near(0, 6);
        x.near(5, 6);
        for (int wrong : Checks.outside(0, 6)) {
            x.refusedArgument("the first is out of range", () -> x.suspicion(wrong, 0));
            x.refusedArgument("the first is out of range", () -> x.suspicion(wrong, 6));
            x.refusedArgument("the second is out of range", () -> x.suspicion(0, wrong));
            x.refusedArgument("the second is out of range", () -> x.suspicion(6, wrong));
            x.refusedArgument("both are out of range", () -> x.suspicion(wrong, wrong));
        }
        Checks.same("the ends of the range", x.suspicion(0, 6), 2);
        Checks.same("the ends, turned round", x.suspicion(6, 0), 2);
        Checks.same("the last pair", x.suspicion(5, 6), 2);
        Checks.same("the last pair, turned round", x.suspicion(6, 5), 2);
        Checks.same("the first pair", x.suspicion(0, 1), 0);
    }

    private static void promise9BothTheSame() {
        Watched x = new Watched();
        x.near(0, 6);
        for (int bidder = 0; bidder < 7; bidder++) {
            int same = bidder;
            x.refusedArgument("both are the same", () -> x.suspicion(same, same));
        }
    }

    private static void promise9SumOverAllTenders() {
        Watched x = new Watched();
        Checks.same("no tender", x.suspicion(2, 4), 0);
        for (int tender = 0; tender < 30; tender++) {
            x.near(2, 4);
            Checks.same("2 for each", x.suspicion(2, 4), 2 * tender + 2);
        }
        Checks.same("30 tenders, turned round", x.suspicion(4, 2), 60);
        Checks.same("a pair with one of both", x.suspicion(2, 3), 0);
        Checks.same("a pair with the other", x.suspicion(3, 4), 0);
    }

    private static void promise9OnlyAwardedTenders() {
        Watched x = new Watched();
        x.near(0, 1);
        int open = x.open();
        x.bid(open, 1, 1000);
        x.bid(open, 0, 1001);
        Checks.same("an open tender", x.suspicion(0, 1), 2);
        int empty = x.open();
        x.bid(empty, 0, 1000);
        x.withdraw(empty, 0);
        x.bid(empty, 1, 1000);
        x.withdraw(empty, 1);
        Checks.same("an open tender with withdrawn bids", x.suspicion(0, 1), 2);
        x.award(empty);
        Checks.same("a void tender", x.suspicion(0, 1), 2);
        x.award(open);
        Checks.same("now it is awarded: near, and a turn", x.suspicion(0, 1), 8);
    }

    private static void promise9GreatestSuspicion() {
        Watched x = new Watched();
        for (int tender = 0; tender < 30; tender++) {
            int winner = tender % 2 == 0 ? 3 : 5;
            x.near(winner, 8 - winner);
            x.passOn(tender, 8 - winner, 1);
            Checks.same("near, passed on, a turn", x.sign(tender, 3, 5), tender == 0 ? 5 : 9);
        }
        Checks.same("the greatest suspicion", x.suspicion(5, 3), 5 + 29 * 9);
        x.setMark(267);
        x.refusedState("one below the mark", () -> x.file(3, 5));
        x.setMark(266);
        Checks.same("at the mark", x.file(3, 5), 0);
        Checks.same("all tenders are matters", x.matters(0), 30);
    }

    private static void promise10TenderRange() {
        Watched x = new Watched();
        x.near(0, 6);
        x.near(0, 6);
        for (int number : Checks.outside(0, 1)) {
            x.refusedIndex("no such tender", () -> x.sign(number, 0, 6));
        }
        Checks.same("the first tender", x.sign(0, 0, 6), 2);
        Checks.same("the last tender", x.sign(1, 0, 6), 2);
        for (int number = 2; number < 30; number++) {
            x.near(0, 6);
        }
        Checks.same("the last of 30", x.sign(29, 0, 6), 2);
        x.refusedIndex("no tender 30", () -> x.sign(30, 0, 6));
    }

    private static void promise10PairRange() {
        Watched x = new Watched();
        x.near(0, 6);
        for (int wrong : Checks.outside(0, 6)) {
            x.refusedArgument("the first is out of range", () -> x.sign(0, wrong, 0));
            x.refusedArgument("the second is out of range", () -> x.sign(0, 6, wrong));
            x.refusedArgument("both are out of range", () -> x.sign(0, wrong, wrong));
        }
        for (int bidder = 0; bidder < 7; bidder++) {
            int same = bidder;
            x.refusedArgument("both are the same", () -> x.sign(0, same, same));
        }
        Checks.same("the ends of the range", x.sign(0, 0, 6), 2);
        Checks.same("the ends, turned round", x.sign(0, 6, 0), 2);
    }

    private static void promise10OrderOfExceptions() {
        Watched x = new Watched();
        x.open();
        x.refusedIndex("no tender, before a wrong bidder", () -> x.sign(1, 7, 0));
        x.refusedIndex("no tender, before a wrong other one", () -> x.sign(-1, 0, -1));
        x.refusedIndex("no tender, before the same twice", () -> x.sign(MAX, 3, 3));
        x.refusedIndex("no tender, before all", () -> x.sign(MIN, MIN, MIN));
        x.refusedArgument("a wrong bidder, of an open tender", () -> x.sign(0, 7, 0));
        x.refusedArgument("the same twice, of an open tender", () -> x.sign(0, 0, 0));
    }

    private static void promise10NothingIfNotAwarded() {
        Watched x = new Watched();
        x.contest(1, 1000, 0, 5000);
        int open = x.open();
        x.bid(open, 0, 1000);
        x.bid(open, 1, 1001);
        x.bid(open, 2, 1001);
        x.withdraw(open, 2);
        Checks.same("open: a near bid and a turn", x.sign(open, 0, 1), 0);
        Checks.same("open: a withdrawn bid", x.sign(open, 0, 2), 0);
        x.award(open);
        Checks.same("awarded: a near bid and a turn", x.sign(open, 0, 1), 6);
        Checks.same("awarded: a withdrawn bid", x.sign(open, 0, 2), 1);
        int empty = x.open();
        Checks.same("open, without bids", x.sign(empty, 0, 1), 0);
        x.bid(empty, 0, 1000);
        x.withdraw(empty, 0);
        x.award(empty);
        for (int other = 1; other < 7; other++) {
            Checks.same("void", x.sign(empty, 0, other), 0);
        }
    }

    private static void near(int winning, int sum, int due) {
        Watched x = new Watched();
        x.contest(2, winning, 5, sum);
        Checks.same(sum + " against " + winning, x.sign(0, 2, 5), due);
        Checks.same(sum + " against " + winning + ", turned round", x.sign(0, 5, 2), due);
        Checks.same("suspicion by " + sum + " against " + winning, x.suspicion(2, 5), due);
    }

    private static void promise10NearByHundredths() {
        int[] even = {20, 40, 60, 100, 1000, 2000, 95200, 95220};
        int[] widthOfEven = {1, 2, 3, 5, 50, 100, 4760, 4761};
        for (int i = 0; i < even.length; i++) {
            near(even[i], even[i] + widthOfEven[i], 2);
            near(even[i], even[i] + widthOfEven[i] + 1, 0);
            near(even[i] - 1, even[i] - 1 + widthOfEven[i] - 1, widthOfEven[i] > 1 ? 2 : 0);
            near(even[i] - 1, even[i] - 1 + widthOfEven[i], 0);
            near(even[i] + 1, even[i] + 1 + widthOfEven[i], 2);
            near(even[i] + 1, even[i] + 1 + widthOfEven[i] + 1, 0);
        }
        for (int winning = 1; winning < 20; winning++) {
            near(winning, winning + 1, 0);
            near(winning, 100000, 0);
        }
        near(95238, 99999, 2);
        near(95238, 100000, 0);
        near(95239, 100000, 2);
        near(99999, 100000, 2);
        near(1, 100000, 0);
    }

    private static void promise10NearMustBeMore() {
        for (int winning : new int[] {1, 19, 20, 40, 1000, 99999, 100000}) {
            near(winning, winning, 0);
        }
        near(1000, 1001, 2);
    }

    private static void promise10NearOnlyIfItStands() {
        Watched x = new Watched();
        int tender = x.open();
        x.bid(tender, 0, 1000);
        x.bid(tender, 1, 1001);
        x.bid(tender, 2, 1001);
        x.withdraw(tender, 2);
        x.award(tender);
        Checks.same("it stands", x.sign(tender, 0, 1), 2);
        Checks.same("it is withdrawn", x.sign(tender, 0, 2), 1);
        Checks.same("there is none", x.sign(tender, 0, 3), 0);
        Checks.same("neither of both has won", x.sign(tender, 1, 2), 0);
    }

    private static void promise10NearOfEachWinner() {
        for (int winner = 0; winner < 7; winner++) {
            Watched x = new Watched();
            x.open();
            for (int bidder = 0; bidder < 7; bidder++) {
                x.bid(0, bidder, bidder == winner ? 1000 : 1050);
            }
            x.award(0);
            for (int one = 0; one < 7; one++) {
                for (int other = 0; other < 7; other++) {
                    if (one != other) {
                        int due = one == winner || other == winner ? 2 : 0;
                        Checks.same("sign for " + one + " and " + other, x.sign(0, one, other), due);
                    }
                }
            }
        }
    }

    private static void promise10PassedToTheOther() {
        Watched x = new Watched();
        int stands = x.contest(0, 1000, 1, 1051);
        Checks.same("not passed on, and not near", x.sign(stands, 0, 1), 0);
        x.passOn(stands, 1, 1);
        Checks.same("it stands", x.sign(stands, 0, 1), 3);
        int gone = x.open();
        x.bid(gone, 0, 1000);
        x.bid(gone, 2, 500);
        x.withdraw(gone, 2);
        x.award(gone);
        Checks.same("it has withdrawn", x.sign(gone, 0, 2), 1);
        x.passOn(gone, 2, 1000);
        Checks.same("it has withdrawn and gets the work", x.sign(gone, 0, 2), 4);
        int absent = x.alone(0, 1000);
        x.passOn(absent, 3, 1000);
        Checks.same("it has made no bid", x.sign(absent, 0, 3), 0);
        int equal = x.contest(0, 1000, 4, 1000);
        x.passOn(equal, 4, 1000);
        Checks.same("it stands with an equal bid", x.sign(equal, 0, 4), 3);
        int near = x.contest(0, 1000, 5, 1050);
        x.passOn(near, 5, 1);
        Checks.same("it stands with a near bid", x.sign(near, 0, 5), 5);
        int least = x.contestOf(0, 1000, 6, 1, true);
        x.passOn(least, 6, 1);
        Checks.same("it has withdrawn the least bid", x.sign(least, 0, 6), 4);
        int leastOfAll = x.contest(3, 1, 4, 1);
        x.passOn(leastOfAll, 4, 1);
        Checks.same("it stands with the least bid", x.sign(leastOfAll, 3, 4), 3);
    }

    private static void promise10PassedToAThird() {
        Watched x = new Watched();
        x.open();
        x.bid(0, 0, 1000);
        x.bid(0, 1, 1050);
        x.bid(0, 2, 2000);
        x.bid(0, 3, 900);
        x.withdraw(0, 3);
        x.award(0);
        x.passOn(0, 2, 500);
        Checks.same("the winner and the third", x.sign(0, 0, 2), 3);
        Checks.same("the winner and one that stands near", x.sign(0, 0, 1), 2);
        Checks.same("the winner and one that has withdrawn", x.sign(0, 0, 3), 1);
        Checks.same("the third and one that stands", x.sign(0, 2, 1), 0);
        Checks.same("the third and one that has withdrawn", x.sign(0, 2, 3), 0);
        Checks.same("the winner and one without a bid", x.sign(0, 0, 6), 0);
    }

    private static void promise10WithdrawnByTheOther() {
        Watched x = new Watched();
        x.open();
        x.bid(0, 6, 1000);
        x.bid(0, 0, 1001);
        x.bid(0, 1, 1);
        x.bid(0, 2, 2000);
        x.withdraw(0, 0);
        x.withdraw(0, 1);
        x.award(0);
        Checks.same("a withdrawn bid above", x.sign(0, 6, 0), 1);
        Checks.same("a withdrawn bid below", x.sign(0, 1, 6), 1);
        Checks.same("a bid that stands, far away", x.sign(0, 2, 6), 0);
        Checks.same("two that have withdrawn", x.sign(0, 0, 1), 0);
        int other = x.alone(6, 1000);
        Checks.same("withdrawn in another tender", x.sign(other, 6, 0), 0);
    }

    private static void promise10TurnNeedsBothInIt() {
        Watched x = new Watched();
        x.contest(0, 1000, 1, 5000);
        int alone = x.alone(1, 1000);
        Checks.same("the loser does not stand in it", x.sign(alone, 0, 1), 0);
        int third = x.contest(1, 1000, 2, 5000);
        Checks.same("another one stands in it", x.sign(third, 0, 1), 0);
        int gone = x.open();
        x.bid(gone, 1, 1000);
        x.bid(gone, 0, 5000);
        x.withdraw(gone, 0);
        x.award(gone);
        Checks.same("the loser has withdrawn from it", x.sign(gone, 0, 1), 1);
        int both = x.contest(1, 1000, 0, 5000);
        Checks.same("both stand in it", x.sign(both, 0, 1), 4);
    }

    private static void promise10TurnNeedsALowerNumber() {
        Watched x = new Watched();
        x.contest(0, 1000, 1, 5000);
        Checks.same("tender 0 has none below", x.sign(0, 0, 1), 0);
        x.contest(1, 1000, 0, 5000);
        Checks.same("tender 1 has one below", x.sign(1, 0, 1), 4);
        Checks.same("tender 0 looks not at tender 1", x.sign(0, 0, 1), 0);
        x.contest(1, 1000, 0, 5000);
        Checks.same("won by the same as before", x.sign(2, 0, 1), 0);
        for (int tender = 3; tender < 29; tender++) {
            x.open();
        }
        x.contest(0, 1000, 1, 5000);
        Checks.same("tender 29 looks back to tender 2", x.sign(29, 0, 1), 4);
    }

    private static void promise10TurnByTheHighestNumber() {
        Watched x = new Watched();
        x.contest(1, 1000, 0, 5000);
        x.contest(0, 1000, 1, 5000);
        x.contest(0, 1000, 1, 5000);
        Checks.same("the one before was won by the same", x.sign(2, 0, 1), 0);
        x.contest(1, 1000, 0, 5000);
        Checks.same("the one before was won by the other", x.sign(3, 0, 1), 4);
        x.contest(0, 1000, 1, 5000);
        Checks.same("and again", x.sign(4, 0, 1), 4);
        Checks.same("three turns", x.suspicion(0, 1), 12);
    }

    private static void promise10TurnPassesOverOthers() {
        Watched x = new Watched();
        x.contest(1, 1000, 0, 5000);
        x.alone(0, 1000);
        x.contest(0, 1000, 2, 5000);
        int gone = x.open();
        x.bid(gone, 0, 1000);
        x.bid(gone, 1, 2000);
        x.withdraw(gone, 1);
        x.award(gone);
        int open = x.open();
        x.bid(open, 0, 1000);
        x.bid(open, 1, 5000);
        int empty = x.open();
        x.bid(empty, 0, 1000);
        x.bid(empty, 1, 5000);
        x.withdraw(empty, 0);
        x.withdraw(empty, 1);
        x.award(empty);
        int turn = x.contest(0, 1000, 1, 5000);
        Checks.same("none of those between counts", x.sign(turn, 0, 1), 4);
        x.award(open);
        Checks.same("the open one counts when it is awarded", x.sign(turn, 0, 1), 0);
        Checks.same("and is the turn itself then", x.sign(open, 0, 1), 4);
    }

    private static void promise10TurnOfAThird() {
        Watched x = new Watched();
        x.contest(1, 1000, 0, 5000);
        x.open();
        for (int bidder = 0; bidder < 3; bidder++) {
            x.bid(1, bidder, bidder == 2 ? 1000 : 5000);
        }
        x.award(1);
        x.contest(0, 1000, 1, 5000);
        Checks.same("a third has won the last in which both stand", x.sign(2, 0, 1), 0);
        Checks.same("the third's tender is none of the pair", x.sign(1, 0, 1), 0);
        x.contest(1, 1000, 0, 5000);
        Checks.same("a turn behind that", x.sign(3, 0, 1), 4);
        x.contest(0, 1000, 2, 5000);
        Checks.same("the third and the next winner", x.sign(4, 0, 2), 4);
    }

    private static void promise10TurnByNumberNotByTime() {
        Watched x = new Watched();
        for (int tender = 0; tender < 3; tender++) {
            x.open();
            x.bid(tender, 0, tender == 1 ? 5000 : 1000);
            x.bid(tender, 1, tender == 1 ? 1000 : 5000);
        }
        x.award(2);
        Checks.same("none below is awarded", x.sign(2, 0, 1), 0);
        x.award(0);
        Checks.same("tender 0 was won by the same", x.sign(2, 0, 1), 0);
        x.award(1);
        Checks.same("tender 1 is awarded last, but comes between", x.sign(2, 0, 1), 4);
        Checks.same("tender 1 looks at tender 0", x.sign(1, 0, 1), 4);
        Checks.same("tender 0 looks at none", x.sign(0, 0, 1), 0);
    }

    private static void promise10TurnWithEqualBids() {
        Watched x = new Watched();
        x.contest(1, 999, 0, 5000);
        x.contest(1, 1000, 0, 1000);
        Checks.same("the lowest number wins, so it is a turn", x.sign(1, 1, 0), 4);
        x.contest(1, 1000, 0, 1000);
        Checks.same("it wins again", x.sign(2, 1, 0), 0);
    }

    private static void promise10TurnOfAWithdrawnBid() {
        Watched x = new Watched();
        x.open();
        x.bid(0, 0, 1000);
        x.bid(0, 1, 5000);
        x.withdraw(0, 1);
        x.award(0);
        x.contest(1, 1000, 0, 5000);
        Checks.same("they did not both stand in the lower one", x.sign(1, 0, 1), 0);
        x.contest(0, 1000, 1, 5000);
        x.passOn(2, 1, 1000);
        Checks.same("a turn, and passed on", x.sign(2, 0, 1), 7);
        x.contest(1, 1000, 0, 5000);
        Checks.same("who has won it matters, not who got it", x.sign(3, 0, 1), 4);
    }

    /** A tender with just these signs for the bidders 0 and 1, behind one that 1 has won. */
    private static int signs(boolean near, boolean passed, boolean withdrawn, boolean turn) {
        Watched x = new Watched();
        x.contest(1, 1000, 0, 5000);
        if (!turn) {
            x.contest(0, 1000, 1, 5000);
        }
        int tender = x.contestOf(0, 1000, 1, near ? 1050 : 1051, withdrawn);
        if (passed) {
            x.passOn(tender, 1, 1000);
        }
        return x.sign(tender, 1, 0);
    }

    private static void promise10EachSumOfSigns() {
        Checks.same("none", signs(false, false, false, false), 0);
        Checks.same("near", signs(true, false, false, false), 2);
        Checks.same("passed on", signs(false, true, false, false), 3);
        Checks.same("a turn", signs(false, false, false, true), 4);
        Checks.same("near, passed on", signs(true, true, false, false), 5);
        Checks.same("near, a turn", signs(true, false, false, true), 6);
        Checks.same("passed on, a turn", signs(false, true, false, true), 7);
        Checks.same("near, passed on, a turn", signs(true, true, false, true), 9);
        for (boolean turn : new boolean[] {false, true}) {
            for (boolean near : new boolean[] {false, true}) {
                Checks.same("withdrawn", signs(near, false, true, turn), 1);
                Checks.same("withdrawn, passed on", signs(near, true, true, turn), 4);
            }
        }
    }

    private static void promise11MarkRange() {
        Watched x = new Watched();
        x.near(0, 1);
        for (int mark : Checks.outside(1, 1000)) {
            x.refusedArgument("the mark is out of range", () -> x.setMark(mark));
        }
        Checks.same("the greatest mark", x.setMark(1000), 10);
        for (int mark : Checks.outside(1, 1000)) {
            x.refusedArgument("the mark is out of range", () -> x.setMark(mark));
        }
        Checks.same("the least mark", x.setMark(1), 1000);
        for (int mark : Checks.outside(1, 1000)) {
            x.refusedArgument("the mark is out of range", () -> x.setMark(mark));
        }
        Checks.same("the mark is 1 still", x.setMark(2), 1);
        Checks.same("the mark is 2", x.setMark(999), 2);
        Checks.same("the mark is 999", x.setMark(10), 999);
    }

    private static void promise11MarkBefore() {
        Watched x = new Watched();
        Checks.same("the first mark, set again", x.setMark(10), 10);
        Checks.same("set to the same", x.setMark(10), 10);
        int before = 10;
        for (int mark = 1; mark <= 1000; mark += 27) {
            Checks.same("the mark before", x.setMark(mark), before);
            before = mark;
        }
    }

    private static void promise11MarkAndSuspicion() {
        Watched x = new Watched();
        x.setMark(1000);
        int tender = x.contestOf(0, 1000, 1, 1000, true);
        Checks.same("the least suspicion", x.suspicion(0, 1), 1);
        x.refusedState("far below the mark", () -> x.file(0, 1));
        x.setMark(2);
        x.refusedState("one below the mark", () -> x.file(0, 1));
        x.setMark(1);
        x.refusedState("no suspicion at the least mark", () -> x.file(0, 2));
        Checks.same("at the least mark", x.file(0, 1), 0);
        x.setMark(1000);
        Checks.same("a file stays when the mark is raised", x.matters(0), 1);
        Checks.same("and can be told in", x.tell(0, 0, tender), true);
        Checks.same("and be closed", x.close(0), 0);
    }

    private static void promise12NoneHasAny() {
        Watched x = new Watched();
        Checks.same("no tenders", x.worst(), -1);
        x.open();
        Checks.same("an open tender", x.worst(), -1);
        x.bid(0, 0, 1000);
        x.bid(0, 1, 1001);
        Checks.same("an open tender with near bids", x.worst(), -1);
        x.withdraw(0, 0);
        x.withdraw(0, 1);
        x.award(0);
        Checks.same("a void tender with withdrawn bids", x.worst(), -1);
        x.contest(0, 1000, 1, 1051);
        Checks.same("an awarded tender that counts nothing", x.worst(), -1);
        x.alone(0, 1000);
        x.passOn(2, 6, 1000);
        Checks.same("passed on to one without a bid", x.worst(), -1);
        x.contestOf(0, 1000, 1, 1000, true);
        Checks.same("the first that has any", x.worst(), 1);
    }

    private static void promise12LeastSuspicion() {
        Watched x = new Watched();
        x.contestOf(6, 1000, 5, 900, true);
        Checks.same("1 is enough", x.worst(), 56);
        Checks.same("1 it is", x.suspicion(5, 6), 1);
    }

    private static void promise12EachPair() {
        for (int lower = 0; lower < 6; lower++) {
            for (int higher = lower + 1; higher < 7; higher++) {
                Watched x = new Watched();
                x.near(higher, lower);
                Checks.same("won by the higher one", x.worst(), 10 * lower + higher);
                Watched y = new Watched();
                y.near(lower, higher);
                Checks.same("won by the lower one", y.worst(), 10 * lower + higher);
            }
        }
    }

    private static void promise12EqualPairs() {
        Watched x = new Watched();
        int due = 99;
        for (int lower = 5; lower >= 0; lower--) {
            for (int higher = 6; higher > lower; higher--) {
                x.near(lower, higher);
                due = 10 * lower + higher;
                Checks.same("of equal ones the least number", x.worst(), due);
            }
        }
        Watched y = new Watched();
        y.near(0, 6);
        y.near(1, 2);
        Checks.same("6 is less than 12", y.worst(), 6);
        Watched z = new Watched();
        z.near(2, 3);
        z.near(1, 6);
        Checks.same("16 is less than 23", z.worst(), 16);
    }

    private static void promise12OneMore() {
        Watched x = new Watched();
        x.near(0, 1);
        x.near(5, 6);
        Checks.same("as much", x.worst(), 1);
        x.contestOf(5, 1000, 6, 900, true);
        Checks.same("one more", x.worst(), 56);
        x.contestOf(0, 1000, 1, 900, true);
        Checks.same("as much again", x.worst(), 1);
        x.contestOf(3, 1000, 4, 900, true);
        Checks.same("another pair with less", x.worst(), 1);
    }
}
