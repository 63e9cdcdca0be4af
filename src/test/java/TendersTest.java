/** Promises 1 to 8: a new object, open, bid, withdraw, award, passOn, turnover, won. */
public final class TendersTest {
    public static void main(String[] args) {
        promise1NewObject();
        promise2Open();
        promise3Bid();
        promise3BidRefused();
        promise3BidOrderOfExceptions();
        promise4Withdraw();
        promise4WithdrawRefused();
        promise5Award();
        promise5AwardRefused();
        promise6PassOn();
        promise6PassOnRefused();
        promise7Turnover();
        promise8Won();
        Checks.end();
    }

    private static void promise1NewObject() {
        Watched x = new Watched();
        x.refusedIndex("award(0) without tenders", () -> x.award(0));
        x.refusedIndex("sign(0, 0, 1) without tenders", () -> x.sign(0, 0, 1));
        x.refusedIndex("matters(0) without files", () -> x.matters(0));
        for (int bidder = 0; bidder < 7; bidder++) {
            Checks.same("turnover of a new watch", x.turnover(bidder), 0);
            Checks.same("won of a new watch", x.won(bidder), 0);
            for (int other = 0; other < 7; other++) {
                if (other != bidder) {
                    Checks.same("suspicion of a new watch", x.suspicion(bidder, other), 0);
                }
            }
        }
        Checks.same("worst of a new watch", x.worst(), -1);
        Checks.same("the first mark", x.setMark(10), 10);
        Checks.same("nothing is paid at first", x.compensate(0, 1), 1);
        Checks.same("the first tender", x.open(), 0);
        Watched second = new Watched();
        Checks.same("the first tender of another watch", second.open(), 0);
    }

    private static void promise2Open() {
        Watched x = new Watched();
        for (int number = 0; number < 30; number++) {
            int missing = number;
            x.refusedIndex("award of a tender that is not opened yet", () -> x.award(missing));
            Checks.same("open", x.open(), number);
        }
        x.refusedState("open of the 31st", x::open);
        Checks.same("award of a tender frees no place", x.award(29), -1);
        x.refusedState("open after an award", x::open);
        x.refusedIndex("award(30)", () -> x.award(30));
        Checks.same("the tenders are open", x.bid(0, 0, 1), 1);
    }

    private static void promise3Bid() {
        Watched x = new Watched();
        x.open();
        x.open();
        Checks.same("bid(0, 0, 1)", x.bid(0, 0, 1), 1);
        Checks.same("bid(0, 6, 100000)", x.bid(0, 6, 100000), 2);
        Checks.same("bid(1, 0, 5) in another tender", x.bid(1, 0, 5), 1);
        x.withdraw(0, 0);
        Checks.same("a withdrawn bid is not counted", x.bid(0, 3, 7), 2);
        for (int bidder = 1; bidder < 7; bidder++) {
            Checks.same("all bid", x.bid(1, bidder, 5), bidder + 1);
        }
    }

    private static void promise3BidRefused() {
        Watched x = new Watched();
        x.open();
        x.open();
        x.open();
        x.refusedIndex("bid(-1, 0, 1)", () -> x.bid(-1, 0, 1));
        x.refusedIndex("bid(3, 0, 1)", () -> x.bid(3, 0, 1));
        x.refusedArgument("bid(0, -1, 1)", () -> x.bid(0, -1, 1));
        x.refusedArgument("bid(0, 7, 1)", () -> x.bid(0, 7, 1));
        x.refusedArgument("bid(0, 0, 0)", () -> x.bid(0, 0, 0));
        x.refusedArgument("bid(0, 0, 100001)", () -> x.bid(0, 0, 100001));
        Checks.same("nothing was bid", x.bid(0, 0, 50), 1);
        x.refusedState("a second bid", () -> x.bid(0, 0, 40));
        Checks.same("the bid stays as it was", x.withdraw(0, 0), 50);
        x.refusedState("a bid after a withdrawn one", () -> x.bid(0, 0, 40));
        Checks.same("the withdrawn bid does not stand", x.award(0), -1);
        x.refusedState("a bid for a void tender", () -> x.bid(0, 1, 40));
        x.bid(1, 1, 40);
        x.award(1);
        x.refusedState("a bid for an awarded tender", () -> x.bid(1, 2, 30));
        Checks.same("the award stays", x.won(1), 1);
    }

    private static void promise3BidOrderOfExceptions() {
        Watched x = new Watched();
        x.open();
        x.award(0);
        x.refusedIndex("bid(1, 7, 0)", () -> x.bid(1, 7, 0));
        x.refusedArgument("bid(0, 7, 1) of a void tender", () -> x.bid(0, 7, 1));
        x.refusedArgument("bid(0, 0, 0) of a void tender", () -> x.bid(0, 0, 0));
        x.refusedIndex("bid at the least int", () -> x.bid(Integer.MIN_VALUE, 0, 1));
        x.refusedIndex("bid at the greatest int", () -> x.bid(Integer.MAX_VALUE, 0, 1));
        x.refusedArgument("a bid of the least int", () -> x.bid(0, 0, Integer.MIN_VALUE));
        x.refusedArgument("a bid of the greatest int", () -> x.bid(0, 0, Integer.MAX_VALUE));
    }

    private static void promise4Withdraw() {
        Watched x = new Watched();
        x.open();
        x.bid(0, 0, 1);
        x.bid(0, 3, 300);
        x.bid(0, 6, 100000);
        Checks.same("withdraw(0, 6)", x.withdraw(0, 6), 100000);
        Checks.same("withdraw(0, 0)", x.withdraw(0, 0), 1);
        Checks.same("the bid that stands wins", x.award(0), 3);
    }

    private static void promise4WithdrawRefused() {
        Watched x = new Watched();
        x.open();
        x.open();
        x.bid(0, 0, 10);
        x.refusedIndex("withdraw(-1, 0)", () -> x.withdraw(-1, 0));
        x.refusedIndex("withdraw(2, 7)", () -> x.withdraw(2, 7));
        x.refusedArgument("withdraw(0, -1)", () -> x.withdraw(0, -1));
        x.refusedArgument("withdraw(0, 7)", () -> x.withdraw(0, 7));
        x.refusedState("withdraw without a bid", () -> x.withdraw(0, 1));
        x.refusedState("withdraw in a tender without bids", () -> x.withdraw(1, 0));
        Checks.same("one may still bid after a refused withdrawal", x.bid(0, 1, 20), 2);
        x.withdraw(0, 1);
        x.refusedState("withdraw twice", () -> x.withdraw(0, 1));
        Checks.same("the other bid still stands", x.award(0), 0);
        x.refusedState("withdraw after the award", () -> x.withdraw(0, 0));
        x.refusedArgument("withdraw(0, 7) after the award", () -> x.withdraw(0, 7));
        Checks.same("the winner stays", x.won(0), 1);
    }

    private static void promise5Award() {
        Watched x = new Watched();
        for (int number = 0; number < 5; number++) {
            x.open();
        }
        x.bid(0, 5, 30);
        x.bid(0, 2, 20);
        x.bid(0, 6, 40);
        Checks.same("the least bid wins", x.award(0), 2);
        x.bid(1, 6, 20);
        x.bid(1, 4, 20);
        x.bid(1, 5, 20);
        Checks.same("of equal ones the lowest number wins", x.award(1), 4);
        Checks.same("void without bids", x.award(2), -1);
        x.bid(3, 0, 20);
        x.withdraw(3, 0);
        Checks.same("void with withdrawn bids alone", x.award(3), -1);
        x.bid(4, 0, 20);
        x.bid(4, 1, 30);
        x.withdraw(4, 0);
        Checks.same("a withdrawn bid wins nothing", x.award(4), 1);
    }

    private static void promise5AwardRefused() {
        Watched x = new Watched();
        x.open();
        x.open();
        x.refusedIndex("award(-1)", () -> x.award(-1));
        x.refusedIndex("award(2)", () -> x.award(2));
        x.bid(0, 0, 5);
        x.award(0);
        x.refusedState("award of an awarded tender", () -> x.award(0));
        x.award(1);
        x.refusedState("award of a void tender", () -> x.award(1));
        Checks.same("the first award counts once", x.turnover(0), 5);
    }

    private static void promise6PassOn() {
        Watched x = new Watched();
        x.open();
        x.open();
        x.bid(0, 4, 900);
        x.bid(0, 1, 1000);
        x.award(0);
        Checks.same("passOn to one without a bid", x.passOn(0, 6, 1), 4);
        Checks.same("the winner keeps the rest", x.turnover(4), 899);
        Checks.same("the other one gets the part", x.turnover(6), 1);
        Checks.same("a passed tender is still won by the winner", x.won(4), 1);
        Checks.same("and not by the other one", x.won(6), 0);
        x.bid(1, 4, 900);
        x.award(1);
        Checks.same("passOn of the whole sum", x.passOn(1, 0, 900), 4);
        Checks.same("nothing of it is left", x.turnover(4), 899);
        Checks.same("the other one has all", x.turnover(0), 900);
    }

    private static void promise6PassOnRefused() {
        Watched x = new Watched();
        x.open();
        x.open();
        x.bid(0, 2, 100);
        x.refusedIndex("passOn(-1, 0, 1)", () -> x.passOn(-1, 0, 1));
        x.refusedIndex("passOn(2, 7, 0)", () -> x.passOn(2, 7, 0));
        x.refusedState("passOn of an open tender", () -> x.passOn(0, 1, 1));
        x.refusedState("passOn(0, 7, 0) of an open tender", () -> x.passOn(0, 7, 0));
        x.award(1);
        x.refusedState("passOn of a void tender", () -> x.passOn(1, 1, 1));
        x.award(0);
        x.refusedArgument("passOn(0, -1, 1)", () -> x.passOn(0, -1, 1));
        x.refusedArgument("passOn(0, 7, 1)", () -> x.passOn(0, 7, 1));
        x.refusedArgument("passOn to the winner", () -> x.passOn(0, 2, 1));
        x.refusedArgument("a part of 0", () -> x.passOn(0, 1, 0));
        x.refusedArgument("a part above the sum", () -> x.passOn(0, 1, 101));
        Checks.same("it was not passed on yet", x.passOn(0, 1, 100), 2);
        x.refusedState("passOn twice", () -> x.passOn(0, 3, 1));
        x.refusedState("passOn(0, 7, 0) of a passed tender", () -> x.passOn(0, 7, 0));
    }

    private static void promise7Turnover() {
        Watched x = new Watched();
        x.open();
        x.bid(0, 6, 100000);
        Checks.same("an open tender is no turnover", x.turnover(6), 0);
        x.award(0);
        Checks.same("the sum as awarded", x.turnover(6), 100000);
        for (int number = 1; number < 30; number++) {
            x.open();
            x.bid(number, 6, 100000);
            x.award(number);
        }
        Checks.same("the sum over 30 tenders", x.turnover(6), 3000000);
        x.passOn(0, 0, 40000);
        x.passOn(7, 0, 3);
        Checks.same("less the parts that it passed on", x.turnover(6), 2959997);
        Checks.same("plus the parts that it got", x.turnover(0), 40003);
        Checks.same("others have none", x.turnover(3), 0);
        for (int number = 0; number < 30; number++) {
            int tender = number;
            Checks.answer(() -> x.passOn(tender, 1, 100000));
        }
        Checks.same("never below 0", x.turnover(6), 60000 + 99997);
        x.refusedArgument("turnover(-1)", () -> x.turnover(-1));
        x.refusedArgument("turnover(7)", () -> x.turnover(7));
    }

    private static void promise8Won() {
        Watched x = new Watched();
        for (int number = 0; number < 4; number++) {
            x.open();
            x.bid(number, 0, 10);
            x.bid(number, 6, number < 3 ? 9 : 10);
        }
        Checks.same("open tenders are not won", x.won(6), 0);
        for (int number = 0; number < 4; number++) {
            x.award(number);
        }
        x.open();
        x.award(4);
        Checks.same("won(6)", x.won(6), 3);
        Checks.same("won(0)", x.won(0), 1);
        Checks.same("won(3)", x.won(3), 0);
        x.refusedArgument("won(-1)", () -> x.won(-1));
        x.refusedArgument("won(7)", () -> x.won(7));
    }
}
