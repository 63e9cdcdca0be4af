/** The edges of promises 1 to 8, both sides of each: a new object, open, bid, withdraw, award, passOn, turnover, won. */
public final class TenderEdgesTest {
    private static final int MIN = Integer.MIN_VALUE;
    private static final int MAX = Integer.MAX_VALUE;

    public static void main(String[] args) {
        promise1NoTenderAndNoFile();
        promise1NobodyHasAnything();
        promise1TheFirstMark();
        promise1ObjectsAreApart();
        promise2ThirtyTenders();
        promise2NoPlaceIsFreed();
        promise2TheLastTenderIsWhole();
        promise3TenderRange();
        promise3BidderRange();
        promise3SumRange();
        promise3OnlyWhileOpen();
        promise3OneBidEach();
        promise3CountOfStandingBids();
        promise3OrderOfExceptions();
        promise4Ranges();
        promise4SumIsAnswered();
        promise4OnlyWhileOpen();
        promise4OnlyAStandingBid();
        promise4OrderOfExceptions();
        promise5TenderRange();
        promise5LeastBid();
        promise5EqualBids();
        promise5Void();
        promise5OnlyOnce();
        promise6TenderRange();
        promise6BidderRange();
        promise6PartRange();
        promise6PartOfTheWinningSum();
        promise6OnlyAwardedTenders();
        promise6OnlyOnce();
        promise6OrderOfExceptions();
        promise7BidderRange();
        promise7NeverBelowNothing();
        promise7AsAwarded();
        promise7PartsGotAndPassedOn();
        promise7GreatestTurnover();
        promise8BidderRange();
        promise8FromNoneToAll();
        promise8PassedOnIsStillWon();
        Checks.end();
    }

    private static void promise1NoTenderAndNoFile() {
        Watched x = new Watched();
        for (int number : new int[] {MIN, -1, 0, 1, 19, 20, 29, 30, MAX}) {
            x.refusedIndex("no tender yet", () -> x.bid(number, 0, 1));
            x.refusedIndex("no tender yet", () -> x.withdraw(number, 0));
            x.refusedIndex("no tender yet", () -> x.award(number));
            x.refusedIndex("no tender yet", () -> x.passOn(number, 0, 1));
            x.refusedIndex("no tender yet", () -> x.sign(number, 0, 1));
            x.refusedIndex("no file yet", () -> x.matters(number));
            x.refusedIndex("no file yet", () -> x.tell(number, 0, 0) ? 1 : 0);
            x.refusedIndex("no file yet", () -> x.close(number));
            x.refusedIndex("no file yet", () -> x.fine(number, 0));
            x.refusedIndex("no file yet", () -> x.firstTeller(number));
        }
    }

    private static void promise1NobodyHasAnything() {
        Watched x = new Watched();
        Checks.same("worst of a new object", x.worst(), -1);
        x.setMark(1);
        for (int one = 0; one < 7; one++) {
            Checks.same("turnover of a new object", x.turnover(one), 0);
            Checks.same("won of a new object", x.won(one), 0);
            for (int other = 0; other < 7; other++) {
                if (one != other) {
                    int first = one;
                    int second = other;
                    Checks.same("suspicion of a new object", x.suspicion(one, other), 0);
                    x.refusedState("no suspicion yet", () -> x.file(first, second));
                }
            }
        }
        for (int bidder = 0; bidder < 7; bidder++) {
            Checks.same("nothing was paid before", x.compensate(bidder, 1), 1);
        }
    }

    private static void promise1TheFirstMark() {
        Watched x = new Watched();
        x.contest(3, 1000, 4, 2000);
        for (int tender = 1; tender < 3; tender++) {
            int winner = tender % 2 == 0 ? 3 : 4;
            x.contest(winner, 1000, 7 - winner, 2000);
        }
        int withdrawn = x.open();
        x.bid(withdrawn, 3, 1000);
        x.bid(withdrawn, 4, 1000);
        x.withdraw(withdrawn, 4);
        x.award(withdrawn);
        Checks.same("one below the first mark", x.suspicion(3, 4), 9);
        x.refusedState("9 is below the first mark", () -> x.file(3, 4));
        int second = x.open();
        x.bid(second, 3, 1000);
        x.bid(second, 4, 1000);
        x.withdraw(second, 4);
        x.award(second);
        Checks.same("at the first mark", x.suspicion(3, 4), 10);
        Checks.same("10 is the first mark", x.file(3, 4), 0);
        Checks.same("the first mark", x.setMark(1), 10);
    }

    private static void promise1ObjectsAreApart() {
        Watched x = new Watched();
        x.setMark(1);
        x.near(0, 1);
        x.file(0, 1);
        x.tell(0, 0, 0);
        x.compensate(0, 5);
        Watched y = new Watched();
        y.refusedIndex("a tender of another object", () -> y.award(0));
        y.refusedIndex("a file of another object", () -> y.matters(0));
        Checks.same("the mark of another object", y.setMark(10), 10);
        Checks.same("the turnover of another object", y.turnover(0), 0);
        Checks.same("the payments of another object", y.compensate(0, 1), 1);
        Checks.same("the first tender of another object", y.open(), 0);
        Checks.same("the first object goes on", x.open(), 1);
    }

    private static Watched withTenders(int count) {
        Watched x = new Watched();
        for (int number = 0; number < count; number++) {
            x.open();
        }
        return x;
    }

    private static void promise2ThirtyTenders() {
        Watched x = new Watched();
        for (int number = 0; number < 30; number++) {
            Checks.same("open", x.open(), number);
        }
        x.refusedState("30 tenders are all", x::open);
        x.refusedState("the next one too", x::open);
        x.refusedIndex("tender 30 is not there", () -> x.award(30));
        Watched y = withTenders(29);
        y.refusedIndex("tender 29 is not there yet", () -> y.award(29));
        Checks.same("the last one that fits", y.open(), 29);
        y.refusedState("the first one that does not fit", y::open);
    }

    private static void promise2NoPlaceIsFreed() {
        Watched x = withTenders(30);
        x.award(0);
        x.refusedState("a void tender frees no place", x::open);
        x.bid(29, 0, 1);
        x.withdraw(29, 0);
        x.refusedState("a withdrawn bid frees no place", x::open);
        x.bid(1, 0, 1);
        x.award(1);
        x.refusedState("an awarded tender frees no place", x::open);
        x.passOn(1, 1, 1);
        x.refusedState("a passed tender frees no place", x::open);
        for (int number = 2; number < 30; number++) {
            x.award(number);
        }
        x.refusedState("30 tenders that ended are 30", x::open);
    }

    private static void promise2TheLastTenderIsWhole() {
        Watched x = withTenders(30);
        x.refusedState("a refused open before it", x::open);
        Checks.same("bid", x.bid(29, 5, 1000), 1);
        Checks.same("bid", x.bid(29, 6, 1050), 2);
        Checks.same("bid", x.bid(29, 0, 1001), 3);
        Checks.same("withdraw", x.withdraw(29, 0), 1001);
        Checks.same("award", x.award(29), 5);
        Checks.same("passOn", x.passOn(29, 6, 1000), 5);
        Checks.same("sign", x.sign(29, 5, 6), 5);
        Checks.same("sign", x.sign(29, 5, 0), 1);
        x.setMark(5);
        Checks.same("file", x.file(5, 6), 0);
        Checks.same("matters", x.matters(0), 1);
        Checks.same("tell", x.tell(0, 5, 29), true);
    }

    private static void promise3TenderRange() {
        Watched x = withTenders(2);
        Checks.same("the first tender", x.bid(0, 0, 1), 1);
        Checks.same("the last tender", x.bid(1, 0, 1), 1);
        for (int number : Checks.outside(0, 1)) {
            x.refusedIndex("no such tender", () -> x.bid(number, 1, 1));
        }
        Watched full = withTenders(30);
        Checks.same("the last of 30", full.bid(29, 0, 1), 1);
        full.refusedIndex("no tender 30", () -> full.bid(30, 0, 1));
    }

    private static void promise3BidderRange() {
        Watched x = withTenders(1);
        Checks.same("the first bidder", x.bid(0, 0, 1), 1);
        Checks.same("the last bidder", x.bid(0, 6, 1), 2);
        for (int bidder : Checks.outside(0, 6)) {
            x.refusedArgument("no such bidder", () -> x.bid(0, bidder, 1));
        }
        Checks.same("only two stand", x.bid(0, 1, 1), 3);
    }

    private static void promise3SumRange() {
        Watched x = withTenders(1);
        for (int sum : Checks.outside(1, 100000)) {
            x.refusedArgument("the sum is out of range", () -> x.bid(0, 3, sum));
        }
        Checks.same("the least sum", x.bid(0, 3, 1), 1);
        Checks.same("the greatest sum", x.bid(0, 4, 100000), 2);
        Checks.same("the least sum is kept", x.withdraw(0, 3), 1);
        Checks.same("the greatest sum is kept", x.withdraw(0, 4), 100000);
    }

    private static void promise3OnlyWhileOpen() {
        Watched x = withTenders(3);
        x.award(0);
        x.refusedState("the tender is void", () -> x.bid(0, 0, 1));
        x.bid(1, 3, 50);
        x.award(1);
        x.refusedState("awarded: a lesser bid", () -> x.bid(1, 0, 49));
        x.refusedState("awarded: an equal bid", () -> x.bid(1, 0, 50));
        x.refusedState("awarded: a greater bid", () -> x.bid(1, 6, 51));
        x.refusedState("awarded: the winner again", () -> x.bid(1, 3, 40));
        x.passOn(1, 0, 10);
        x.refusedState("passed on", () -> x.bid(1, 0, 1));
        Checks.same("the open one is open still", x.bid(2, 0, 1), 1);
    }

    private static void promise3OneBidEach() {
        for (int first : new int[] {1, 50, 100000}) {
            Watched x = withTenders(2);
            x.bid(0, 2, first);
            for (int sum : new int[] {1, 49, 50, 51, 100000}) {
                x.refusedState("a second bid", () -> x.bid(0, 2, sum));
            }
            Checks.same("the first bid stands", x.withdraw(0, 2), first);
            for (int sum : new int[] {1, 49, 50, 51, 100000}) {
                x.refusedState("a bid after a withdrawn one", () -> x.bid(0, 2, sum));
            }
            Checks.same("no bid stands", x.bid(0, 1, 60), 1);
            Checks.same("a bid for another tender", x.bid(1, 2, 50), 1);
        }
    }

    private static void promise3CountOfStandingBids() {
        Watched x = withTenders(2);
        for (int bidder = 0; bidder < 7; bidder++) {
            Checks.same("all seven bid", x.bid(0, bidder, 100000), bidder + 1);
        }
        for (int bidder = 6; bidder >= 0; bidder--) {
            Checks.same("each withdraws before the next bids", x.bid(1, bidder, 7), 1);
            if (bidder > 0) {
                x.withdraw(1, bidder);
            }
        }
        Checks.same("the last one wins", x.award(1), 0);
    }

    private static void promise3OrderOfExceptions() {
        Watched x = withTenders(2);
        x.bid(0, 0, 5);
        x.award(1);
        x.refusedIndex("no tender, before a wrong bidder", () -> x.bid(2, 7, 1));
        x.refusedIndex("no tender, before a wrong sum", () -> x.bid(-1, 0, 0));
        x.refusedIndex("no tender, before both", () -> x.bid(MAX, MIN, MIN));
        x.refusedArgument("a wrong bidder, before a void tender", () -> x.bid(1, 7, 1));
        x.refusedArgument("a wrong sum, before a void tender", () -> x.bid(1, 0, 100001));
        x.refusedArgument("a wrong sum, before a second bid", () -> x.bid(0, 0, 0));
        x.refusedArgument("both wrong, before a void tender", () -> x.bid(1, -1, 0));
        x.award(0);
        x.refusedArgument("a wrong bidder, before an awarded tender", () -> x.bid(0, -1, 1));
        x.refusedArgument("a wrong sum, before an awarded tender", () -> x.bid(0, 1, 0));
    }

    private static void promise4Ranges() {
        Watched x = withTenders(2);
        for (int bidder = 0; bidder < 7; bidder++) {
            x.bid(0, bidder, bidder + 1);
            x.bid(1, bidder, 100000 - bidder);
        }
        for (int number : Checks.outside(0, 1)) {
            x.refusedIndex("no such tender", () -> x.withdraw(number, 0));
        }
        for (int bidder : Checks.outside(0, 6)) {
            x.refusedArgument("no such bidder", () -> x.withdraw(0, bidder));
        }
        Checks.same("the first bidder of the first tender", x.withdraw(0, 0), 1);
        Checks.same("the last bidder of the first tender", x.withdraw(0, 6), 7);
        Checks.same("the first bidder of the last tender", x.withdraw(1, 0), 100000);
        Checks.same("the last bidder of the last tender", x.withdraw(1, 6), 99994);
        Watched full = withTenders(30);
        full.bid(29, 0, 9);
        full.refusedIndex("no tender 30", () -> full.withdraw(30, 0));
        Checks.same("the last of 30", full.withdraw(29, 0), 9);
    }

    private static void promise4SumIsAnswered() {
        Watched x = withTenders(3);
        x.bid(0, 1, 1);
        x.bid(1, 1, 100000);
        x.bid(2, 1, 12345);
        Checks.same("the greatest sum", x.withdraw(1, 1), 100000);
        Checks.same("a sum between", x.withdraw(2, 1), 12345);
        Checks.same("the least sum", x.withdraw(0, 1), 1);
    }

    private static void promise4OnlyWhileOpen() {
        Watched x = withTenders(3);
        x.bid(0, 1, 10);
        x.bid(0, 2, 20);
        x.award(0);
        x.refusedState("the winner, when it is awarded", () -> x.withdraw(0, 1));
        x.refusedState("the other one, when it is awarded", () -> x.withdraw(0, 2));
        x.refusedState("one without a bid, when it is awarded", () -> x.withdraw(0, 3));
        x.passOn(0, 2, 10);
        x.refusedState("the winner, when it is passed on", () -> x.withdraw(0, 1));
        x.refusedState("the other one, when it is passed on", () -> x.withdraw(0, 2));
        x.bid(1, 1, 10);
        x.withdraw(1, 1);
        x.award(1);
        x.refusedState("a withdrawn bid of a void tender", () -> x.withdraw(1, 1));
        x.bid(2, 1, 10);
        Checks.same("the bid for the open one", x.withdraw(2, 1), 10);
    }

    private static void promise4OnlyAStandingBid() {
        Watched x = withTenders(2);
        x.refusedState("no bids at all", () -> x.withdraw(0, 0));
        x.bid(0, 3, 10);
        for (int bidder : new int[] {0, 2, 4, 6}) {
            x.refusedState("no bid of this one", () -> x.withdraw(0, bidder));
        }
        x.refusedState("no bid of this one for that tender", () -> x.withdraw(1, 3));
        x.withdraw(0, 3);
        x.refusedState("withdrawn already", () -> x.withdraw(0, 3));
        x.refusedState("withdrawn already, once more", () -> x.withdraw(0, 3));
        x.bid(0, 2, 10);
        x.refusedState("withdrawn already, while another one stands", () -> x.withdraw(0, 3));
        Checks.same("that one can withdraw", x.withdraw(0, 2), 10);
    }

    private static void promise4OrderOfExceptions() {
        Watched x = withTenders(2);
        x.bid(0, 0, 5);
        x.award(0);
        x.award(1);
        x.refusedIndex("no tender, before a wrong bidder", () -> x.withdraw(2, 7));
        x.refusedIndex("no tender, before a wrong bidder", () -> x.withdraw(-1, -1));
        x.refusedArgument("a wrong bidder, before an awarded tender", () -> x.withdraw(0, 7));
        x.refusedArgument("a wrong bidder, before a void tender", () -> x.withdraw(1, -1));
    }

    private static void promise5TenderRange() {
        Watched x = withTenders(3);
        for (int number : Checks.outside(0, 2)) {
            x.refusedIndex("no such tender", () -> x.award(number));
        }
        x.bid(0, 6, 5);
        x.bid(2, 0, 5);
        Checks.same("the last tender", x.award(2), 0);
        Checks.same("the first tender", x.award(0), 6);
        Checks.same("the one between", x.award(1), -1);
    }

    private static void promise5LeastBid() {
        for (int winner = 0; winner < 7; winner++) {
            Watched x = withTenders(1);
            for (int bidder = 0; bidder < 7; bidder++) {
                x.bid(0, bidder, bidder == winner ? 99999 : 100000);
            }
            Checks.same("the least bid by 1", x.award(0), winner);
            Checks.same("it gets its own sum", x.turnover(winner), 99999);
        }
        Watched ends = withTenders(2);
        ends.bid(0, 0, 100000);
        ends.bid(0, 6, 1);
        Checks.same("the least sum of all", ends.award(0), 6);
        ends.bid(1, 5, 100000);
        Checks.same("the greatest sum, alone", ends.award(1), 5);
    }

    private static void promise5EqualBids() {
        for (int lowest = 0; lowest < 7; lowest++) {
            Watched x = withTenders(2);
            for (int bidder = 6; bidder >= lowest; bidder--) {
                x.bid(0, bidder, 40);
            }
            for (int bidder = 0; bidder < lowest; bidder++) {
                x.bid(0, bidder, 41);
            }
            Checks.same("of equal ones the lowest number", x.award(0), lowest);
            for (int bidder = 0; bidder < 7; bidder++) {
                x.bid(1, bidder, 40);
            }
            for (int bidder = 0; bidder < lowest; bidder++) {
                x.withdraw(1, bidder);
            }
            Checks.same("of equal ones that stand the lowest number", x.award(1), lowest);
        }
    }

    private static void promise5Void() {
        Watched x = withTenders(3);
        Checks.same("no bids", x.award(0), -1);
        for (int bidder = 0; bidder < 7; bidder++) {
            x.bid(1, bidder, 30);
            x.bid(2, bidder, 30);
        }
        for (int bidder = 0; bidder < 7; bidder++) {
            x.withdraw(1, bidder);
            if (bidder != 3) {
                x.withdraw(2, bidder);
            }
        }
        Checks.same("all seven have withdrawn", x.award(1), -1);
        Checks.same("all but one have withdrawn", x.award(2), 3);
        for (int bidder = 0; bidder < 7; bidder++) {
            Checks.same("won", x.won(bidder), bidder == 3 ? 1 : 0);
        }
    }

    private static void promise5OnlyOnce() {
        Watched x = withTenders(2);
        x.bid(0, 1, 10);
        x.bid(0, 0, 11);
        x.award(0);
        x.refusedState("an awarded tender", () -> x.award(0));
        x.passOn(0, 0, 3);
        x.refusedState("a passed tender", () -> x.award(0));
        x.award(1);
        x.refusedState("a void tender", () -> x.award(1));
        x.refusedState("a void tender, once more", () -> x.award(1));
        Checks.same("the award stands", x.turnover(1), 7);
    }

    private static Watched withOneAwarded(int winner, int sum) {
        Watched x = new Watched();
        x.alone(winner, sum);
        return x;
    }

    private static void promise6TenderRange() {
        Watched x = new Watched();
        x.alone(1, 10);
        x.alone(2, 10);
        for (int number : Checks.outside(0, 1)) {
            x.refusedIndex("no such tender", () -> x.passOn(number, 0, 1));
        }
        Checks.same("the last tender", x.passOn(1, 0, 1), 2);
        Checks.same("the first tender", x.passOn(0, 0, 1), 1);
    }

    private static void promise6BidderRange() {
        Watched x = withOneAwarded(3, 10);
        for (int bidder : Checks.outside(0, 6)) {
            x.refusedArgument("no such bidder", () -> x.passOn(0, bidder, 1));
        }
        for (int winner = 0; winner < 7; winner++) {
            for (int other = 0; other < 7; other++) {
                Watched y = withOneAwarded(winner, 10);
                int bidder = other;
                if (winner == other) {
                    y.refusedArgument("the winner itself", () -> y.passOn(0, bidder, 1));
                } else {
                    Checks.same("any other one", y.passOn(0, other, 4), winner);
                    Checks.same("gets the part", y.turnover(other), 4);
                }
            }
        }
    }

    private static void partRange(int sum) {
        Watched x = withOneAwarded(0, sum);
        for (int part : Checks.outside(1, sum)) {
            x.refusedArgument("the part is out of range", () -> x.passOn(0, 1, part));
        }
        Checks.same("the greatest part", x.passOn(0, 1, sum), 0);
        Checks.same("nothing is left", x.turnover(0), 0);
        Checks.same("all is got", x.turnover(1), sum);
        Watched y = withOneAwarded(0, sum);
        Checks.same("the least part", y.passOn(0, 1, 1), 0);
        Checks.same("1 less is left", y.turnover(0), sum - 1);
        Checks.same("1 is got", y.turnover(1), 1);
    }

    private static void promise6PartRange() {
        partRange(1);
        partRange(2);
        partRange(777);
        partRange(99999);
        partRange(100000);
    }

    private static void promise6PartOfTheWinningSum() {
        Watched x = new Watched();
        int tender = x.open();
        x.bid(tender, 0, 90);
        x.bid(tender, 1, 100);
        x.bid(tender, 2, 110);
        x.withdraw(tender, 0);
        x.award(tender);
        x.refusedArgument("one above the winning sum", () -> x.passOn(tender, 2, 101));
        x.refusedArgument("the other one's own sum", () -> x.passOn(tender, 2, 110));
        Checks.same("more than the withdrawn least bid", x.passOn(tender, 0, 100), 1);
    }

    private static void promise6OnlyAwardedTenders() {
        Watched x = withTenders(3);
        x.refusedState("open, without bids", () -> x.passOn(0, 1, 1));
        x.bid(0, 0, 10);
        x.refusedState("open, with a bid", () -> x.passOn(0, 1, 1));
        x.award(1);
        x.refusedState("void", () -> x.passOn(1, 1, 1));
        x.bid(2, 0, 10);
        x.withdraw(2, 0);
        x.award(2);
        x.refusedState("void, with a withdrawn bid", () -> x.passOn(2, 1, 1));
        x.award(0);
        Checks.same("awarded", x.passOn(0, 1, 1), 0);
    }

    private static void promise6OnlyOnce() {
        Watched x = withOneAwarded(2, 100);
        x.passOn(0, 3, 40);
        x.refusedState("to the same again", () -> x.passOn(0, 3, 40));
        x.refusedState("to a third", () -> x.passOn(0, 4, 1));
        x.refusedState("back to the winner", () -> x.passOn(0, 2, 40));
        Checks.same("the winner keeps the rest", x.turnover(2), 60);
        Checks.same("the other keeps its part", x.turnover(3), 40);
        Checks.same("the third has nothing", x.turnover(4), 0);
    }

    private static void promise6OrderOfExceptions() {
        Watched x = withTenders(4);
        x.bid(0, 0, 10);
        x.award(1);
        x.bid(2, 0, 10);
        x.award(2);
        x.passOn(2, 1, 5);
        x.bid(3, 0, 10);
        x.award(3);
        x.refusedIndex("no tender, before a wrong bidder", () -> x.passOn(4, 7, 1));
        x.refusedIndex("no tender, before a wrong part", () -> x.passOn(-1, 1, 0));
        for (int tender = 0; tender < 3; tender++) {
            int number = tender;
            String state = tender == 0 ? "open" : tender == 1 ? "void" : "passed on";
            x.refusedState(state + ", before a bidder below", () -> x.passOn(number, -1, 1));
            x.refusedState(state + ", before a bidder above", () -> x.passOn(number, 7, 1));
            x.refusedState(state + ", before a part of 0", () -> x.passOn(number, 1, 0));
            x.refusedState(state + ", before a part above", () -> x.passOn(number, 1, 11));
            x.refusedState(state + ", before the winner itself", () -> x.passOn(number, 0, 1));
            x.refusedState(state + ", before both ends", () -> x.passOn(number, MIN, MAX));
        }
        x.refusedArgument("the winner, with a wrong part", () -> x.passOn(3, 0, 0));
        Checks.same("none of these has passed it on", x.passOn(3, 6, 10), 0);
    }

    private static void promise7BidderRange() {
        Watched x = new Watched();
        x.alone(0, 11);
        x.alone(6, 13);
        for (int bidder : Checks.outside(0, 6)) {
            x.refusedArgument("no such bidder", () -> x.turnover(bidder));
        }
        Checks.same("the first bidder", x.turnover(0), 11);
        Checks.same("the last bidder", x.turnover(6), 13);
    }

    private static void promise7NeverBelowNothing() {
        Watched x = new Watched();
        for (int tender = 0; tender < 6; tender++) {
            x.alone(0, tender == 3 ? 1 : 100000);
            x.passOn(tender, 1, x.turnover(0));
            Checks.same("all is passed on", x.turnover(0), 0);
        }
        Checks.same("the other one has all", x.turnover(1), 500001);
        x.alone(0, 1);
        Checks.same("one more tender", x.turnover(0), 1);
    }

    private static void promise7AsAwarded() {
        Watched x = withTenders(3);
        x.bid(0, 0, 70);
        x.bid(0, 1, 80);
        Checks.same("an open tender", x.turnover(0), 0);
        x.withdraw(0, 0);
        Checks.same("an open tender with one bid", x.turnover(1), 0);
        x.award(0);
        Checks.same("a withdrawn bid", x.turnover(0), 0);
        Checks.same("the winning bid", x.turnover(1), 80);
        x.bid(1, 1, 90);
        x.withdraw(1, 1);
        x.award(1);
        Checks.same("a void tender", x.turnover(1), 80);
        x.bid(2, 1, 100);
        x.bid(2, 0, 101);
        x.award(2);
        Checks.same("two tenders", x.turnover(1), 180);
        Checks.same("bids that did not win", x.turnover(0), 0);
        x.compensate(1, 50);
        Checks.same("payments are no turnover", x.turnover(1), 180);
    }

    private static void promise7PartsGotAndPassedOn() {
        Watched x = new Watched();
        x.alone(0, 100);
        x.alone(1, 100);
        x.alone(0, 100);
        x.passOn(0, 1, 30);
        x.passOn(1, 0, 100);
        x.passOn(2, 6, 1);
        Checks.same("won 200, got 100, passed on 31", x.turnover(0), 269);
        Checks.same("won 100, got 30, passed on 100", x.turnover(1), 30);
        Checks.same("got 1 without a tender won", x.turnover(6), 1);
    }

    private static void promise7GreatestTurnover() {
        Watched x = new Watched();
        for (int tender = 0; tender < 30; tender++) {
            x.alone(tender % 2 == 0 ? 0 : 6, 100000);
        }
        Checks.same("15 tenders", x.turnover(6), 1500000);
        for (int tender = 0; tender < 30; tender += 2) {
            x.passOn(tender, 6, 100000);
        }
        Checks.same("15 tenders and 15 parts", x.turnover(6), 3000000);
        Checks.same("all passed on", x.turnover(0), 0);
    }

    private static void promise8BidderRange() {
        Watched x = new Watched();
        x.alone(0, 11);
        x.alone(6, 13);
        x.alone(6, 13);
        for (int bidder : Checks.outside(0, 6)) {
            x.refusedArgument("no such bidder", () -> x.won(bidder));
        }
        Checks.same("the first bidder", x.won(0), 1);
        Checks.same("the last bidder", x.won(6), 2);
    }

    private static void promise8FromNoneToAll() {
        Watched x = new Watched();
        for (int tender = 0; tender < 30; tender++) {
            Checks.same("won before", x.won(4), tender);
            x.open();
            x.bid(tender, 4, 7);
            x.bid(tender, 5, 7);
            Checks.same("an open tender is not won", x.won(4), tender);
            x.award(tender);
        }
        Checks.same("all are won", x.won(4), 30);
        Checks.same("none is won", x.won(5), 0);
        Watched y = withTenders(2);
        y.award(0);
        y.bid(1, 0, 5);
        y.withdraw(1, 0);
        y.award(1);
        for (int bidder = 0; bidder < 7; bidder++) {
            Checks.same("void tenders are won by nobody", y.won(bidder), 0);
        }
    }

    private static void promise8PassedOnIsStillWon() {
        Watched x = withOneAwarded(0, 10);
        x.passOn(0, 1, 10);
        Checks.same("the winner, with nothing left", x.won(0), 1);
        Checks.same("the one that got all", x.won(1), 0);
    }
}
