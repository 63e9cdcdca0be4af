/** The edges of promises 13 to 19, both sides of each: file, matters, tell, compensate, close, fine, firstTeller. */
public final class FileEdgesTest {
    private static final int MIN = Integer.MIN_VALUE;
    private static final int MAX = Integer.MAX_VALUE;

    public static void main(String[] args) {
        promise13PairRange();
        promise13AtTheMark();
        promise13SuspicionThatFell();
        promise13OnceForEachPair();
        promise13TwentyFiles();
        promise13OrderOfExceptions();
        promise13NoNumberIsUsedUp();
        promise14FileRange();
        promise14FromOneToThirty();
        promise14FixedWhenOpened();
        promise14OfWhichTenders();
        promise15FileRange();
        promise15TenderRange();
        promise15BidderOfThePair();
        promise15OrderOfExceptions();
        promise15NewOnce();
        promise15AsOftenAsItLikes();
        promise15UntilItIsClosed();
        promise15WhatIsNoMatter();
        promise15InThisFile();
        promise16BidderRange();
        promise16MoneyRange();
        promise16WhatWasNotTaken();
        promise17FileRange();
        promise17ClosedOnce();
        promise17Tenth();
        promise17HalfOfTheMatters();
        promise17HalfOfTheFine();
        promise17QuarterOfTheFine();
        promise17OtherTellsMore();
        promise17TurnoverWhenClosed();
        promise17GreatestFine();
        promise18FileRange();
        promise18BidderOfThePair();
        promise18OrderOfExceptions();
        promise18NothingBeforeItIsClosed();
        promise18AsFarAsTheFineGoes();
        promise18PaidBeforeItIsClosed();
        promise18NotFromAnotherFine();
        promise18TakenFromTheLoweredFine();
        promise19FileRange();
        promise19NobodyYet();
        promise19TheFirstStays();
        Checks.end();
    }

    /** A tender that one wins and that counts 1 for the pair, as the other withdraws; the winner keeps nothing. */
    private static int matter(Watched x, int winner, int other) {
        int tender = x.contestOf(winner, 1, other, 1, true);
        x.passOn(tender, third(winner, other), 1);
        return tender;
    }

    private static int third(int one, int other) {
        int third = 6;
        while (third == one || third == other) {
            third--;
        }
        return third;
    }

    /** A watch with a file 0 of the pair that has that many matters, the tenders 0 and on, and no turnover. */
    private static Watched withMatters(int count, int one, int other) {
        Watched x = new Watched();
        x.setMark(1);
        for (int tender = 0; tender < count; tender++) {
            matter(x, tender % 2 == 0 ? one : other, tender % 2 == 0 ? other : one);
        }
        x.file(one, other);
        return x;
    }

    private static void promise13PairRange() {
        Watched x = new Watched();
        x.setMark(1);
        matter(x, 0, 6);
        for (int wrong : Checks.outside(0, 6)) {
            x.refusedArgument("the first is out of range", () -> x.file(wrong, 6));
            x.refusedArgument("the second is out of range", () -> x.file(0, wrong));
            x.refusedArgument("both are out of range", () -> x.file(wrong, wrong));
        }
        for (int bidder = 0; bidder < 7; bidder++) {
            int same = bidder;
            x.refusedArgument("both are the same", () -> x.file(same, same));
        }
        Checks.same("the ends of the range", x.file(6, 0), 0);
        for (int lower = 0; lower < 6; lower++) {
            Watched y = new Watched();
            y.setMark(1);
            matter(y, lower, 6);
            Checks.same("a pair with the last bidder", y.file(lower, 6), 0);
        }
    }

    private static void promise13AtTheMark() {
        for (int suspicion : new int[] {1, 2, 9, 10, 11, 29}) {
            Watched x = new Watched();
            for (int tender = 0; tender < suspicion; tender++) {
                matter(x, 4, 2);
            }
            x.setMark(1000);
            x.refusedState("below the greatest mark", () -> x.file(2, 4));
            x.setMark(suspicion + 1);
            x.refusedState("one below the mark", () -> x.file(2, 4));
            x.setMark(suspicion);
            x.refusedState("no suspicion", () -> x.file(2, 3));
            Checks.same("at the mark", x.file(2, 4), 0);
            Checks.same("its matters", x.matters(0), suspicion);
        }
        Watched above = new Watched();
        for (int tender = 0; tender < 11; tender++) {
            matter(above, 4, 2);
        }
        Checks.same("one above the first mark", above.file(2, 4), 0);
    }

    private static void promise13SuspicionThatFell() {
        Watched x = new Watched();
        x.setMark(4);
        x.contest(0, 1000, 1, 5000);
        int third = x.open();
        x.bid(third, 0, 5000);
        x.bid(third, 1, 5000);
        x.bid(third, 2, 1000);
        x.contest(1, 1000, 0, 5000);
        Checks.same("a turn", x.suspicion(0, 1), 4);
        x.award(third);
        Checks.same("no turn any more", x.suspicion(0, 1), 0);
        x.refusedState("below the mark again", () -> x.file(0, 1));
    }

    private static void promise13OnceForEachPair() {
        Watched x = withMatters(3, 5, 2);
        x.refusedState("it has a file", () -> x.file(5, 2));
        x.refusedState("it has a file, turned round", () -> x.file(2, 5));
        matter(x, 5, 2);
        x.refusedState("it has a file, with new suspicion", () -> x.file(5, 2));
        x.close(0);
        x.refusedState("it had a file", () -> x.file(5, 2));
        x.refusedState("it had a file, turned round", () -> x.file(2, 5));
        matter(x, 5, 2);
        x.refusedState("it had a file, with new suspicion", () -> x.file(2, 5));
        matter(x, 5, 3);
        matter(x, 2, 3);
        Checks.same("a pair with one of both", x.file(3, 5), 1);
        Checks.same("a pair with the other", x.file(3, 2), 2);
    }

    /** A watch in which each pair has suspicion, and the mark is 1. */
    private static Watched withAllPairs() {
        Watched x = new Watched();
        x.setMark(1);
        for (int winner = 0; winner < 6; winner++) {
            x.open();
            for (int bidder = winner; bidder < 7; bidder++) {
                x.bid(winner, bidder, bidder == winner ? 1000 : 1050);
            }
            x.award(winner);
        }
        return x;
    }

    private static void fileAllBut(Watched x, int leftLower, int leftHigher) {
        int due = 0;
        for (int lower = 0; lower < 6; lower++) {
            for (int higher = lower + 1; higher < 7; higher++) {
                if (lower != leftLower || higher != leftHigher) {
                    Checks.same("file", x.file(higher, lower), due);
                    due++;
                }
            }
        }
        Checks.same("so many files", due, 20);
    }

    private static void promise13TwentyFiles() {
        Watched x = withAllPairs();
        fileAllBut(x, 5, 6);
        Checks.same("the pair that is left", x.suspicion(5, 6), 2);
        x.refusedState("20 files are all", () -> x.file(5, 6));
        x.refusedState("20 files are all, turned round", () -> x.file(6, 5));
        x.refusedState("a pair that has a file", () -> x.file(0, 1));
        Checks.same("the last file", x.matters(19), 1);
        x.refusedIndex("no file 20", () -> x.matters(20));
        Checks.same("the last file can be told in", x.tell(19, 6, 4), true);
        x.close(19);
        x.refusedState("a closed file frees no place", () -> x.file(5, 6));
        Checks.same("the last file has fines", x.fine(19, 4), 100);
        for (int file = 0; file < 19; file++) {
            x.close(file);
        }
        x.refusedState("20 closed files are 20", () -> x.file(5, 6));
        Watched y = withAllPairs();
        fileAllBut(y, 0, 1);
        y.refusedState("the first pair is left", () -> y.file(0, 1));
    }

    private static void promise13OrderOfExceptions() {
        Watched x = withMatters(1, 0, 1);
        x.refusedArgument("wrong, before no suspicion", () -> x.file(7, 3));
        x.refusedArgument("wrong, before a file", () -> x.file(0, -1));
        x.refusedArgument("the same, before no suspicion", () -> x.file(4, 4));
        x.refusedArgument("the same, one that is in a file", () -> x.file(0, 0));
        Watched full = withAllPairs();
        fileAllBut(full, 5, 6);
        full.refusedArgument("wrong, before 20 files", () -> full.file(5, 7));
        full.refusedArgument("wrong, before 20 files", () -> full.file(MIN, MAX));
        full.refusedArgument("the same, before 20 files", () -> full.file(6, 6));
    }

    private static void promise13NoNumberIsUsedUp() {
        Watched x = new Watched();
        matter(x, 0, 1);
        for (int time = 0; time < 3; time++) {
            x.refusedState("below the mark", () -> x.file(0, 1));
            x.refusedArgument("the same", () -> x.file(0, 0));
        }
        x.setMark(1);
        Checks.same("the first file", x.file(0, 1), 0);
        x.refusedState("it has a file", () -> x.file(0, 1));
        matter(x, 0, 2);
        Checks.same("the next file", x.file(0, 2), 1);
        x.refusedIndex("no file behind", () -> x.matters(2));
    }

    private static void promise14FileRange() {
        Watched x = withMatters(2, 0, 1);
        matter(x, 0, 2);
        x.file(0, 2);
        for (int file : Checks.outside(0, 1)) {
            x.refusedIndex("no such file", () -> x.matters(file));
        }
        Checks.same("the first file", x.matters(0), 2);
        Checks.same("the last file", x.matters(1), 1);
    }

    private static void promise14FromOneToThirty() {
        for (int count : new int[] {1, 2, 29, 30}) {
            Watched x = withMatters(count, 3, 6);
            Checks.same("matters", x.matters(0), count);
            for (int tender = 0; tender < count; tender++) {
                Checks.same("each is a matter", x.tell(0, 6, tender), true);
            }
            Checks.same("matters that were told are matters", x.matters(0), count);
            x.close(0);
            Checks.same("matters of a closed file", x.matters(0), count);
        }
        Watched heavy = new Watched();
        heavy.near(0, 1);
        heavy.contest(1, 1000, 0, 1050);
        heavy.passOn(1, 0, 1);
        Checks.same("suspicion", heavy.suspicion(0, 1), 2 + 9);
        heavy.file(0, 1);
        Checks.same("tenders, not what they count", heavy.matters(0), 2);
    }

    private static void promise14FixedWhenOpened() {
        Watched x = new Watched();
        x.setMark(1);
        x.contest(0, 1000, 1, 5000);
        int third = x.open();
        x.bid(third, 0, 5000);
        x.bid(third, 1, 5000);
        x.bid(third, 2, 1000);
        int turn = x.contest(1, 1000, 0, 5000);
        int open = x.open();
        x.bid(open, 0, 1000);
        x.bid(open, 1, 1001);
        int far = x.contest(1, 1000, 0, 5000);
        x.file(1, 0);
        Checks.same("the turn is its one matter", x.matters(0), 1);
        x.award(third);
        x.award(open);
        x.passOn(far, 0, 1);
        Checks.same("the turn counts nothing any more", x.sign(turn, 0, 1), 0);
        Checks.same("the open one counts now", x.sign(open, 0, 1), 6);
        Checks.same("the passed one counts now", x.sign(far, 0, 1), 3 + 4);
        Checks.same("the file has what it had", x.matters(0), 1);
        Checks.same("the open one is no matter", x.tell(0, 0, open), false);
        Checks.same("the passed one is no matter", x.tell(0, 0, far), false);
        Checks.same("the turn is one still", x.tell(0, 0, turn), true);
    }

    private static void promise14OfWhichTenders() {
        Watched x = new Watched();
        x.setMark(1);
        x.near(0, 1);
        x.contest(0, 1000, 1, 1051);
        x.contest(0, 1000, 1, 1000);
        x.contestOf(0, 1000, 1, 1051, true);
        x.near(2, 1);
        int open = x.open();
        x.bid(open, 0, 1000);
        x.bid(open, 1, 1001);
        x.open();
        x.award(6);
        x.alone(0, 1000);
        x.passOn(7, 1, 1000);
        x.contest(0, 1000, 1, 1051);
        x.passOn(8, 1, 1);
        x.contest(1, 1000, 0, 5000);
        x.file(0, 1);
        boolean[] due = {true, false, false, true, false, false, false, false, true, true};
        Checks.same("the tenders that count", x.matters(0), 4);
        for (int tender = 0; tender < due.length; tender++) {
            Checks.same("tender " + tender + " is a matter", x.tell(0, 1, tender), due[tender]);
        }
    }

    private static void promise15FileRange() {
        Watched x = withMatters(1, 0, 1);
        matter(x, 0, 2);
        x.file(0, 2);
        for (int file : Checks.outside(0, 1)) {
            x.refusedIndex("no such file", () -> x.tell(file, 0, 0) ? 1 : 0);
        }
        Checks.same("the first file", x.tell(0, 0, 0), true);
        Checks.same("the last file", x.tell(1, 0, 1), true);
    }

    private static void promise15TenderRange() {
        Watched x = withMatters(3, 0, 1);
        for (int tender : Checks.outside(0, 2)) {
            x.refusedIndex("no such tender", () -> x.tell(0, 0, tender) ? 1 : 0);
        }
        Checks.same("the last tender", x.tell(0, 0, 2), true);
        Checks.same("the first tender", x.tell(0, 0, 0), true);
        Watched full = withMatters(30, 0, 1);
        full.refusedIndex("no tender 30", () -> full.tell(0, 0, 30) ? 1 : 0);
        Checks.same("the last of 30", full.tell(0, 0, 29), true);
    }

    private static void promise15BidderOfThePair() {
        for (int lower = 0; lower < 6; lower++) {
            for (int higher = lower + 1; higher < 7; higher++) {
                Watched x = withMatters(2, higher, lower);
                for (int other = 0; other < 7; other++) {
                    int none = other;
                    if (other != lower && other != higher) {
                        x.refusedArgument("none of the pair", () -> x.tell(0, none, 0) ? 1 : 0);
                    }
                }
                Checks.same("the lower one", x.tell(0, lower, 0), true);
                Checks.same("the higher one", x.tell(0, higher, 1), true);
            }
        }
        Watched x = withMatters(2, 0, 6);
        for (int bidder : Checks.outside(0, 6)) {
            x.refusedArgument("no bidder at all", () -> x.tell(0, bidder, 0) ? 1 : 0);
        }
    }

    private static void promise15OrderOfExceptions() {
        Watched x = withMatters(1, 0, 1);
        x.refusedIndex("no file, before no tender", () -> x.tell(1, 0, 1) ? 1 : 0);
        x.refusedIndex("no file, before none of the pair", () -> x.tell(-1, 2, 0) ? 1 : 0);
        x.refusedIndex("no tender, before none of the pair", () -> x.tell(0, 2, 1) ? 1 : 0);
        x.refusedIndex("all wrong", () -> x.tell(MIN, MAX, MIN) ? 1 : 0);
        x.close(0);
        x.refusedIndex("no file, another one is closed", () -> x.tell(1, 0, 0) ? 1 : 0);
        x.refusedIndex("no tender, before closed", () -> x.tell(0, 0, -1) ? 1 : 0);
        x.refusedIndex("no tender, before both", () -> x.tell(0, 7, 30) ? 1 : 0);
        x.refusedArgument("none of the pair, before closed", () -> x.tell(0, 2, 0) ? 1 : 0);
        x.refusedArgument("no bidder, before closed", () -> x.tell(0, -1, 0) ? 1 : 0);
    }

    private static void promise15NewOnce() {
        Watched x = withMatters(4, 0, 1);
        Checks.same("told first by the one", x.tell(0, 0, 0), true);
        Checks.same("told again by the one", x.tell(0, 0, 0), false);
        Checks.same("told again by the other", x.tell(0, 1, 0), false);
        Checks.same("told first by the other", x.tell(0, 1, 1), true);
        Checks.same("told again by the other", x.tell(0, 1, 1), false);
        Checks.same("told again by the one", x.tell(0, 0, 1), false);
        Checks.same("another one, told first by the one", x.tell(0, 0, 3), true);
        Checks.same("the last one that is new", x.tell(0, 1, 2), true);
        for (int tender = 0; tender < 4; tender++) {
            Checks.same("all are told", x.tell(0, 0, tender), false);
            Checks.same("all are told", x.tell(0, 1, tender), false);
        }
    }

    private static void promise15AsOftenAsItLikes() {
        Watched x = withMatters(2, 0, 1);
        Checks.same("new", x.tell(0, 0, 0), true);
        while (x.calls() < Watched.CALLS - 3) {
            Checks.same("not new", x.tell(0, 0, 0), false);
        }
        Checks.same("new, after hundreds that were not", x.tell(0, 1, 1), true);
        Checks.same("the first teller", x.firstTeller(0), 0);
        Checks.same("the last call", x.tell(0, 1, 1), false);
    }

    private static void promise15UntilItIsClosed() {
        Watched x = withMatters(3, 0, 1);
        x.tell(0, 0, 0);
        x.close(0);
        for (int bidder = 0; bidder < 2; bidder++) {
            int teller = bidder;
            for (int number = 0; number < 3; number++) {
                int tender = number;
                x.refusedState("the file is closed", () -> x.tell(0, teller, tender) ? 1 : 0);
            }
        }
        matter(x, 0, 2);
        x.file(0, 2);
        x.refusedState("closed, though another is open", () -> x.tell(0, 0, 1) ? 1 : 0);
        Checks.same("another file is open", x.tell(1, 0, 3), true);
    }

    private static void promise15WhatIsNoMatter() {
        Watched x = withMatters(1, 0, 1);
        int open = x.open();
        int ofOthers = matter(x, 2, 3);
        int later = matter(x, 0, 1);
        int alone = x.alone(0, 5);
        x.open();
        x.award(5);
        for (int tender : new int[] {open, ofOthers, later, alone, 5}) {
            Checks.same("no matter of the file", x.tell(0, 0, tender), false);
            Checks.same("no matter, once more", x.tell(0, 0, tender), false);
        }
        Checks.same("no first teller by that", x.firstTeller(0), -1);
        Checks.same("its one matter", x.tell(0, 1, 0), true);
        Checks.same("the first teller", x.firstTeller(0), 1);
    }

    private static void promise15InThisFile() {
        Watched x = new Watched();
        x.setMark(1);
        x.open();
        x.bid(0, 0, 1000);
        x.bid(0, 1, 1001);
        x.bid(0, 2, 1001);
        x.award(0);
        x.file(0, 1);
        x.file(0, 2);
        Checks.same("new in the one file", x.tell(0, 0, 0), true);
        Checks.same("new in the other too", x.tell(1, 0, 0), true);
        Checks.same("not new in the one", x.tell(0, 1, 0), false);
        Checks.same("not new in the other", x.tell(1, 2, 0), false);
    }

    private static void promise16BidderRange() {
        Watched x = new Watched();
        for (int bidder : Checks.outside(0, 6)) {
            x.refusedArgument("no such bidder", () -> x.compensate(bidder, 1));
        }
        for (int bidder = 0; bidder < 7; bidder++) {
            Checks.same("each has its own payments", x.compensate(bidder, bidder + 1), bidder + 1);
        }
        for (int bidder : Checks.outside(0, 6)) {
            x.refusedArgument("no such bidder", () -> x.compensate(bidder, 0));
        }
        for (int bidder = 0; bidder < 7; bidder++) {
            Checks.same("each has its own payments", x.compensate(bidder, 10), bidder + 11);
        }
    }

    private static void promise16MoneyRange() {
        Watched x = new Watched();
        for (int money : Checks.outside(1, 100000)) {
            x.refusedArgument("the money is out of range", () -> x.compensate(3, money));
        }
        Checks.same("the least money", x.compensate(3, 1), 1);
        Checks.same("the greatest money", x.compensate(4, 100000), 100000);
        for (int money : Checks.outside(1, 100000)) {
            x.refusedArgument("the money is out of range", () -> x.compensate(3, money));
        }
        Checks.same("1 was paid", x.compensate(3, 100000), 100001);
        Watched most = new Watched();
        for (int call = 1; call <= Watched.CALLS; call++) {
            Checks.same("as much as can be paid", most.compensate(6, 100000), 100000L * call);
        }
    }

    private static void promise16WhatWasNotTaken() {
        Watched x = withFines(1000, 1000, 3, 0, 0);
        x.compensate(0, 99);
        x.compensate(1, 101);
        Checks.same("1 and nothing", x.close(0), 1);
        Checks.same("all was taken", x.compensate(0, 7), 7);
        Checks.same("1 was not taken", x.compensate(1, 7), 8);
    }

    private static void promise17FileRange() {
        Watched x = withMatters(1, 0, 1);
        matter(x, 0, 2);
        x.file(0, 2);
        x.alone(0, 100);
        for (int file : Checks.outside(0, 1)) {
            x.refusedIndex("no such file", () -> x.close(file));
        }
        Checks.same("the last file", x.close(1), 10);
        for (int file : Checks.outside(0, 1)) {
            x.refusedIndex("no such file", () -> x.close(file));
        }
        Checks.same("the first file", x.close(0), 10);
    }

    private static void promise17ClosedOnce() {
        Watched x = withMatters(2, 0, 1);
        matter(x, 0, 2);
        x.file(0, 2);
        x.alone(0, 1000);
        x.compensate(0, 150);
        Checks.same("100 less 100", x.close(0), 0);
        x.refusedState("closed", () -> x.close(0));
        x.alone(0, 1000);
        x.compensate(0, 1);
        x.refusedState("closed, with more turnover", () -> x.close(0));
        Checks.same("the fine stays", x.fine(0, 0), 0);
        Checks.same("200 less 51", x.close(1), 149);
        x.refusedState("the other one, closed", () -> x.close(1));
        x.refusedState("the first one, closed still", () -> x.close(0));
    }

    /**
     * A watch with a file 0 of the bidders 0 and 1, who have these turnovers; it has that many matters, at most 26,
     * of which the bidder 1 tells the first ones, so many of them new, and behind it the bidder 0.
     */
    private static Watched withFines(int turnover0, int turnover1, int matters, int newOf1, int newOf0) {
        Watched x = withMatters(matters, 0, 1);
        turnover(x, 0, turnover0);
        turnover(x, 1, turnover1);
        for (int tender = 0; tender < newOf1; tender++) {
            x.tell(0, 1, tender);
        }
        for (int tender = 0; tender < newOf1 + newOf0; tender++) {
            x.tell(0, 0, tender);
        }
        return x;
    }

    private static void turnover(Watched x, int bidder, int sum) {
        for (int left = sum; left > 0; left -= 100000) {
            x.alone(bidder, Math.min(left, 100000));
        }
        Checks.same("turnover", x.turnover(bidder), sum);
    }

    private static void fines(int turnover0, int turnover1, int matters, int newOf1, int newOf0, int due0, int due1) {
        String call = "turnovers " + turnover0 + " and " + turnover1 + ", matters " + matters + ", new tellings "
                + newOf0 + " and, before, " + newOf1;
        Watched x = withFines(turnover0, turnover1, matters, newOf1, newOf0);
        Checks.same("close by " + call, x.close(0), due0 + due1);
        Checks.same("fine of 0 by " + call, x.fine(0, 0), due0);
        Checks.same("fine of 1 by " + call, x.fine(0, 1), due1);
        Checks.same("turnover of 0 behind it", x.turnover(0), turnover0);
        Checks.same("turnover of 1 behind it", x.turnover(1), turnover1);
    }

    private static void promise17Tenth() {
        fines(0, 0, 1, 0, 0, 0, 0);
        fines(9, 1, 1, 0, 0, 0, 0);
        fines(10, 9, 1, 0, 0, 1, 0);
        fines(11, 10, 1, 0, 0, 1, 1);
        fines(19, 20, 1, 0, 0, 1, 2);
        fines(20, 19, 1, 0, 0, 2, 1);
        fines(999, 1000, 2, 0, 0, 99, 100);
        fines(99999, 100000, 2, 0, 0, 9999, 10000);
        fines(100001, 0, 2, 0, 0, 10000, 0);
    }

    private static void promise17HalfOfTheMatters() {
        for (int matters = 1; matters <= 26; matters++) {
            int half = (matters + 1) / 2;
            fines(100, 100, matters, half, 0, 10, 0);
            fines(100, 100, matters, matters, 0, 10, 0);
            if (half > 1) {
                fines(100, 100, matters, half - 1, 0, 10, 5);
                fines(100, 100, matters, 1, 0, 10, 5);
            }
        }
        for (int matters = 29; matters <= 30; matters++) {
            for (int told = 14; told <= 15; told++) {
                Watched x = new Watched();
                x.setMark(1);
                for (int tender = 0; tender < matters; tender++) {
                    x.contestOf(0, 100, 6, 100, true);
                }
                x.file(6, 0);
                for (int tender = 0; tender < told; tender++) {
                    x.tell(0, 0, matters - 1 - tender);
                }
                Checks.same(told + " of " + matters, x.close(0), told == 14 ? matters * 10 / 2 : 0);
            }
        }
    }

    private static void promise17HalfOfTheFine() {
        fines(0, 9, 3, 1, 0, 0, 0);
        fines(0, 10, 3, 1, 0, 0, 0);
        fines(0, 19, 3, 1, 0, 0, 0);
        fines(0, 20, 3, 1, 0, 0, 1);
        fines(0, 29, 3, 1, 0, 0, 1);
        fines(0, 30, 3, 1, 0, 0, 1);
        fines(0, 39, 3, 1, 0, 0, 1);
        fines(0, 40, 3, 1, 0, 0, 2);
        fines(0, 50, 3, 1, 0, 0, 2);
        fines(0, 99990, 3, 1, 0, 0, 4999);
        fines(0, 100000, 3, 1, 0, 0, 5000);
        fines(0, 100000, 3, 2, 0, 0, 0);
    }

    private static void promise17QuarterOfTheFine() {
        int[] tenths = {0, 1, 2, 3, 4, 5, 6, 7, 8, 9, 11, 12, 13, 9999, 10000};
        int[] lowered = {0, 1, 2, 3, 3, 4, 5, 6, 6, 7, 9, 9, 10, 7500, 7500};
        for (int i = 0; i < tenths.length; i++) {
            fines(10 * tenths[i], 0, 5, 1, 1, lowered[i], 0);
            fines(10 * tenths[i], 0, 5, 1, 0, tenths[i], 0);
        }
        fines(79, 0, 5, 1, 1, 6, 0);
        fines(80, 0, 5, 1, 1, 6, 0);
        fines(39, 0, 5, 1, 1, 3, 0);
        fines(49, 0, 5, 1, 1, 3, 0);
    }

    private static void promise17OtherTellsMore() {
        fines(400, 400, 4, 1, 3, 30, 20);
        fines(400, 400, 4, 2, 2, 30, 0);
        fines(400, 400, 4, 3, 1, 30, 0);
        fines(400, 400, 4, 4, 0, 40, 0);
        fines(400, 400, 4, 0, 4, 0, 40);
        fines(400, 400, 4, 0, 1, 20, 40);
        fines(400, 400, 26, 1, 25, 30, 20);
        fines(400, 400, 2, 1, 1, 30, 0);
        fines(400, 400, 3, 1, 2, 30, 20);
        Watched x = withMatters(3, 0, 1);
        turnover(x, 0, 400);
        turnover(x, 1, 400);
        int open = x.open();
        x.tell(0, 0, open);
        x.tell(0, 1, 2);
        x.tell(0, 0, 2);
        x.tell(0, 0, open);
        Checks.same("only what is new counts", x.close(0), 40 + 20);
        Checks.same("the other one told nothing new", x.fine(0, 0), 40);
    }

    private static void promise17TurnoverWhenClosed() {
        Watched x = withMatters(1, 0, 1);
        matter(x, 0, 2);
        x.file(2, 0);
        x.alone(0, 100);
        int open = x.open();
        x.bid(open, 0, 100);
        x.alone(3, 100);
        x.passOn(4, 1, 99);
        Checks.same("what was won and got after the file was opened", x.close(0), 10 + 9);
        x.award(open);
        Checks.same("a fine of a closed file stays", x.fine(0, 0), 10);
        Checks.same("the turnover now", x.close(1), 20);
        x.passOn(open, 1, 100);
        Checks.same("the fine of the first stays", x.fine(0, 0), 10);
        Checks.same("the fine of the other one stays", x.fine(0, 1), 9);
        Checks.same("the fine of the second stays", x.fine(1, 0), 20);
        Checks.same("one without turnover", x.fine(1, 2), 0);
        Watched y = withMatters(1, 0, 1);
        y.alone(0, 100);
        y.passOn(1, 1, 91);
        Checks.same("less the part that was passed on", y.close(0), 0 + 9);
        Checks.same("9 are left", y.fine(0, 0), 0);
        Checks.same("91 were got", y.fine(0, 1), 9);
    }

    private static void promise17GreatestFine() {
        Watched x = new Watched();
        for (int tender = 0; tender < 30; tender++) {
            x.contestOf(0, 100000, 1, 100000, true);
        }
        x.file(0, 1);
        Checks.same("a tenth of 30 times 100000", x.close(0), 300000);
        Checks.same("the fine", x.fine(0, 0), 300000);
        Watched y = new Watched();
        for (int tender = 0; tender < 30; tender++) {
            y.contestOf(0, 100000, 1, 100000, true);
        }
        y.file(0, 1);
        for (int time = 0; time < 3; time++) {
            y.compensate(0, 100000);
        }
        Checks.same("as much was paid", y.close(0), 0);
        Checks.same("nothing is left of it", y.compensate(0, 1), 1);
    }

    private static void promise18FileRange() {
        Watched x = withMatters(1, 0, 1);
        matter(x, 0, 2);
        x.file(0, 2);
        x.alone(0, 100);
        x.close(0);
        x.alone(0, 100);
        x.close(1);
        for (int file : Checks.outside(0, 1)) {
            x.refusedIndex("no such file", () -> x.fine(file, 0));
        }
        Checks.same("the first file", x.fine(0, 0), 10);
        Checks.same("the last file", x.fine(1, 0), 20);
    }

    private static void promise18BidderOfThePair() {
        for (int lower = 0; lower < 6; lower++) {
            for (int higher = lower + 1; higher < 7; higher++) {
                Watched x = withMatters(1, lower, higher);
                x.alone(lower, 50);
                x.alone(higher, 70);
                x.close(0);
                for (int other = 0; other < 7; other++) {
                    int none = other;
                    if (other != lower && other != higher) {
                        x.refusedArgument("none of the pair", () -> x.fine(0, none));
                    }
                }
                Checks.same("the lower one", x.fine(0, lower), 5);
                Checks.same("the higher one", x.fine(0, higher), 7);
            }
        }
        Watched x = withMatters(1, 0, 6);
        for (int bidder : Checks.outside(0, 6)) {
            x.refusedArgument("no bidder at all", () -> x.fine(0, bidder));
        }
    }

    private static void promise18OrderOfExceptions() {
        Watched x = withMatters(1, 0, 1);
        x.refusedIndex("no file, before none of the pair", () -> x.fine(1, 2));
        x.refusedIndex("no file, before no bidder", () -> x.fine(-1, 7));
        x.refusedIndex("no file, before no bidder", () -> x.fine(MAX, MIN));
        x.refusedArgument("none of the pair, not closed", () -> x.fine(0, 2));
        x.close(0);
        x.refusedArgument("none of the pair, closed", () -> x.fine(0, 2));
    }

    private static void promise18NothingBeforeItIsClosed() {
        Watched x = withFines(1000, 500, 3, 1, 1);
        Checks.same("not closed", x.fine(0, 0), 0);
        Checks.same("not closed", x.fine(0, 1), 0);
        x.compensate(0, 5);
        Checks.same("not closed, with a payment", x.fine(0, 0), 0);
        matter(x, 0, 2);
        x.file(0, 2);
        x.close(1);
        Checks.same("not closed, though another is", x.fine(0, 0), 0);
        Checks.same("the other's", x.fine(1, 0), 95);
        x.close(0);
        Checks.same("closed", x.fine(0, 0), 75);
        Checks.same("closed", x.fine(0, 1), 25);
    }

    private static void paid(int money, int due, int left) {
        Watched x = withFines(1000, 1000, 1, 0, 0);
        x.compensate(0, money);
        Checks.same("close with " + money + " paid", x.close(0), due + 100);
        Checks.same("the fine with " + money + " paid", x.fine(0, 0), due);
        Checks.same("the fine of the other one", x.fine(0, 1), 100);
        Checks.same("what is left of " + money, x.compensate(0, 1), left + 1);
        Checks.same("what the other one has paid", x.compensate(1, 1), 1);
    }

    private static void promise18AsFarAsTheFineGoes() {
        paid(1, 99, 0);
        paid(99, 1, 0);
        paid(100, 0, 0);
        paid(101, 0, 1);
        paid(100000, 0, 99900);
    }

    private static void promise18PaidBeforeItIsClosed() {
        Watched x = new Watched();
        x.setMark(1);
        x.compensate(0, 30);
        matter(x, 0, 1);
        x.compensate(1, 4);
        x.file(0, 1);
        x.alone(0, 1000);
        x.alone(1, 1000);
        x.compensate(0, 20);
        x.compensate(2, 60);
        Checks.same("paid before the file was opened, and after", x.close(0), 50 + 96);
        x.compensate(0, 50);
        Checks.same("paid after it was closed", x.fine(0, 0), 50);
        Checks.same("what was paid then is left", x.compensate(0, 1), 51);
        Checks.same("the other one", x.fine(0, 1), 96);
        Checks.same("one that has no file", x.compensate(2, 1), 61);
    }

    private static void promise18NotFromAnotherFine() {
        Watched x = new Watched();
        x.setMark(1);
        for (int other = 1; other < 5; other++) {
            matter(x, 0, other);
            x.file(0, other);
        }
        x.alone(0, 1000);
        x.compensate(0, 150);
        Checks.same("the first takes 100", x.close(2), 0);
        Checks.same("the second takes what is left", x.close(0), 50);
        Checks.same("the third takes nothing", x.close(3), 100);
        x.compensate(0, 100);
        Checks.same("the last takes what was paid since", x.close(1), 0);
        Checks.same("nothing is left", x.compensate(0, 1), 1);
        Checks.same("fine by file 2", x.fine(2, 0), 0);
        Checks.same("fine by file 0", x.fine(0, 0), 50);
        Checks.same("fine by file 3", x.fine(3, 0), 100);
        Checks.same("fine by file 1", x.fine(1, 0), 0);
    }

    private static void promise18TakenFromTheLoweredFine() {
        Watched half = withFines(0, 1000, 3, 1, 0);
        half.compensate(1, 49);
        Checks.same("half of 100, less 49", half.close(0), 1);
        Checks.same("all was taken", half.compensate(1, 1), 1);
        Watched more = withFines(0, 1000, 3, 1, 0);
        more.compensate(1, 51);
        Checks.same("half of 100, less 50", more.close(0), 0);
        Checks.same("1 was left", more.compensate(1, 1), 2);
        Watched quarter = withFines(1000, 0, 3, 1, 1);
        quarter.compensate(0, 76);
        Checks.same("75, less 75", quarter.close(0), 0);
        Checks.same("1 was left", quarter.compensate(0, 1), 2);
        Watched spared = withFines(0, 1000, 3, 2, 0);
        spared.compensate(1, 10);
        Checks.same("nothing", spared.close(0), 0);
        Checks.same("all was left", spared.compensate(1, 1), 11);
    }

    private static void promise19FileRange() {
        Watched x = withMatters(1, 0, 1);
        matter(x, 0, 2);
        x.file(0, 2);
        x.tell(0, 1, 0);
        x.tell(1, 2, 1);
        for (int file : Checks.outside(0, 1)) {
            x.refusedIndex("no such file", () -> x.firstTeller(file));
        }
        Checks.same("the first file", x.firstTeller(0), 1);
        Checks.same("the last file", x.firstTeller(1), 2);
    }

    private static void promise19NobodyYet() {
        Watched x = withMatters(1, 0, 1);
        Checks.same("nobody has told", x.firstTeller(0), -1);
        int other = matter(x, 0, 2);
        x.tell(0, 0, other);
        Checks.same("nobody has told what is new", x.firstTeller(0), -1);
        x.refusedArgument("none of the pair tells", () -> x.tell(0, 2, 0) ? 1 : 0);
        Checks.same("a refused telling is none", x.firstTeller(0), -1);
        x.close(0);
        Checks.same("nobody has told when it is closed", x.firstTeller(0), -1);
        x.refusedState("it is closed", () -> x.tell(0, 0, 0) ? 1 : 0);
        Checks.same("a telling that came too late is none", x.firstTeller(0), -1);
    }

    private static void promise19TheFirstStays() {
        for (int first = 0; first < 7; first++) {
            int second = (first + 3) % 7;
            Watched x = withMatters(3, second, first);
            x.tell(0, first, 1);
            Checks.same("the first", x.firstTeller(0), first);
            x.tell(0, second, 0);
            x.tell(0, second, 2);
            Checks.same("the other one tells more", x.firstTeller(0), first);
            x.close(0);
            Checks.same("in a closed file", x.firstTeller(0), first);
        }
        Watched x = withMatters(3, 0, 1);
        int other = matter(x, 0, 2);
        x.tell(0, 0, other);
        x.tell(0, 1, 0);
        x.tell(0, 0, 0);
        x.tell(0, 0, 1);
        Checks.same("the first whose telling was new", x.firstTeller(0), 1);
    }
}
