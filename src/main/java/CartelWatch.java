public final class CartelWatch {
    private static final int BIDDERS = 7;
    private static final int NOBODY = -1;
    private static final int MOST_TENDERS = 30;
    private static final int MOST_FILES = 20;
    private static final int MOST_MONEY = 100000;
    private static final int MOST_MARK = 1000;
    private static final int FIRST_MARK = 10;

    private static final int NEAR_HUNDREDTHS = 5;
    private static final int COUNT_OF_NEAR_BID = 2;
    private static final int COUNT_OF_PASSED_WORK = 3;
    private static final int COUNT_OF_WITHDRAWN_BID = 1;
    private static final int COUNT_OF_TURN = 4;

    private static final int TURNOVER_PER_FINE = 10;

    // The numbers of tenders and files are their places; the places not yet given out hold null.
    private final Tender[] tenders = new Tender[MOST_TENDERS];
    private int tenderCount = 0;
    private final Dossier[] dossiers = new Dossier[MOST_FILES];
    private int dossierCount = 0;
    private final int[] paidToHarmed = new int[BIDDERS];
    private int leastSuspicionForFile = FIRST_MARK;

    public CartelWatch() {
    }

    // ---- tenders

    public int open() throws IllegalStateException {
        int number = tenderCount;
        if (number < 0 || number >= tenders.length) {
            throw new IllegalStateException("there are as many tenders as there can be");
        }
        tenders[number] = new Tender();
        tenderCount = number + 1;
        return number;
    }

    public int bid(int tender, int bidder, int sum)
            throws IndexOutOfBoundsException, IllegalArgumentException, IllegalStateException {
        Tender asked = tenderAt(tender);
        if (asked == null) {
            throw new IndexOutOfBoundsException("no such tender");
        }
        if (!isBidder(bidder) || !isMoney(sum)) {
            throw new IllegalArgumentException("bidder or sum is out of range");
        }
        if (!asked.isOpen() || asked.hasBidOf(bidder)) {
            throw new IllegalStateException("the tender is not open, or the bidder has made a bid");
        }
        asked.takeBid(bidder, sum);
        return asked.countStanding();
    }

    public int withdraw(int tender, int bidder)
            throws IndexOutOfBoundsException, IllegalArgumentException, IllegalStateException {
        Tender asked = tenderAt(tender);
        if (asked == null) {
            throw new IndexOutOfBoundsException("no such tender");
        }
        if (!isBidder(bidder)) {
            throw new IllegalArgumentException("bidder is out of range");
        }
        if (!asked.isOpen() || !asked.isStanding(bidder)) {
            throw new IllegalStateException("the tender is not open, or the bidder does not stand in it");
        }
        asked.giveBack(bidder);
        return asked.sumOf(bidder);
    }

    public int award(int tender) throws IndexOutOfBoundsException, IllegalStateException {
        Tender asked = tenderAt(tender);
        if (asked == null) {
            throw new IndexOutOfBoundsException("no such tender");
        }
        if (!asked.isOpen()) {
            throw new IllegalStateException("the tender is not open");
        }
        asked.decide();
        return asked.winner();
    }

    public int passOn(int tender, int bidder, int part)
            throws IndexOutOfBoundsException, IllegalStateException, IllegalArgumentException {
        Tender asked = tenderAt(tender);
        if (asked == null) {
            throw new IndexOutOfBoundsException("no such tender");
        }
        if (!asked.isAwarded() || asked.isPassedOn()) {
            throw new IllegalStateException("the tender was not awarded, or was passed on");
        }
        int winner = asked.winner();
        if (!isBidder(bidder) || bidder == winner || part < 1 || part > asked.sumOf(winner)) {
            throw new IllegalArgumentException("bidder or part is out of range, or bidder is the winner");
        }
        asked.giveOver(bidder, part);
        return winner;
    }

    public int turnover(int bidder) throws IllegalArgumentException {
        if (!isBidder(bidder)) {
            throw new IllegalArgumentException("bidder is out of range");
        }
        return turnoverOf(bidder);
    }

    public int won(int bidder) throws IllegalArgumentException {
        if (!isBidder(bidder)) {
            throw new IllegalArgumentException("bidder is out of range");
        }
        int count = 0;
        for (Tender tender : tenders) {
            if (tender != null && tender.winner() == bidder) {
                count++;
            }
        }
        return count;
    }

    // ---- signs

    public int suspicion(int one, int other) throws IllegalArgumentException {
        if (!isPair(one, other)) {
            throw new IllegalArgumentException("one or other is out of range, or both are the same");
        }
        return suspicionOf(one, other);
    }

    public int sign(int tender, int one, int other) throws IndexOutOfBoundsException, IllegalArgumentException {
        if (tenderAt(tender) == null) {
            throw new IndexOutOfBoundsException("no such tender");
        }
        if (!isPair(one, other)) {
            throw new IllegalArgumentException("one or other is out of range, or both are the same");
        }
        return countOf(tender, one, other);
    }

    public int setMark(int mark) throws IllegalArgumentException {
        if (mark < 1 || mark > MOST_MARK) {
            throw new IllegalArgumentException("mark is out of range");
        }
        int before = leastSuspicionForFile;
        leastSuspicionForFile = mark;
        return before;
    }

    public int worst() {
        int worstPair = NOBODY;
        int greatest = 0;
        // Pairs come in the order of their numbers, so of several equal ones the first is kept.
        for (int lower = 0; lower < BIDDERS; lower++) {
            for (int higher = lower + 1; higher < BIDDERS; higher++) {
                int suspicion = suspicionOf(lower, higher);
                if (suspicion > greatest) {
                    greatest = suspicion;
                    worstPair = 10 * lower + higher;
                }
            }
        }
        return worstPair;
    }

    // ---- files

    public int file(int one, int other) throws IllegalArgumentException, IllegalStateException {
        if (!isPair(one, other)) {
            throw new IllegalArgumentException("one or other is out of range, or both are the same");
        }
        int number = dossierCount;
        if (number < 0 || number >= dossiers.length || hasDossier(one, other)
                || suspicionOf(one, other) < leastSuspicionForFile) {
            throw new IllegalStateException("suspicion is below the mark, or no file is left for the pair");
        }
        Dossier opened = new Dossier(one, other);
        for (int tender = 0; tender < tenders.length; tender++) {
            if (countOf(tender, one, other) > 0) {
                opened.addMatter(tender);
            }
        }
        dossiers[number] = opened;
        dossierCount = number + 1;
        return number;
    }

    public int matters(int file) throws IndexOutOfBoundsException {
        Dossier asked = dossierAt(file);
        if (asked == null) {
            throw new IndexOutOfBoundsException("no such file");
        }
        return asked.matterCount();
    }

    public boolean tell(int file, int bidder, int tender)
            throws IndexOutOfBoundsException, IllegalArgumentException, IllegalStateException {
        Dossier asked = dossierAt(file);
        if (asked == null || tenderAt(tender) == null) {
            throw new IndexOutOfBoundsException("no such file or tender");
        }
        if (!asked.isOf(bidder)) {
            throw new IllegalArgumentException("bidder is none of the pair");
        }
        if (asked.isClosed()) {
            throw new IllegalStateException("the file is closed");
        }
        return asked.hear(bidder, tender);
    }

    public int compensate(int bidder, int money) throws IllegalArgumentException {
        if (!isBidder(bidder) || !isMoney(money)) {
            throw new IllegalArgumentException("bidder or money is out of range");
        }
        paidToHarmed[bidder] += money;
        return paidToHarmed[bidder];
    }

    public int close(int file) throws IndexOutOfBoundsException, IllegalStateException {
        Dossier asked = dossierAt(file);
        if (asked == null) {
            throw new IndexOutOfBoundsException("no such file");
        }
        if (asked.isClosed()) {
            throw new IllegalStateException("the file is closed");
        }
        asked.shut();
        return settle(asked, asked.one()) + settle(asked, asked.other());
    }

    public int fine(int file, int bidder) throws IndexOutOfBoundsException, IllegalArgumentException {
        Dossier asked = dossierAt(file);
        if (asked == null) {
            throw new IndexOutOfBoundsException("no such file");
        }
        if (!asked.isOf(bidder)) {
            throw new IllegalArgumentException("bidder is none of the pair");
        }
        return asked.fineOf(bidder);
    }

    public int firstTeller(int file) throws IndexOutOfBoundsException {
        Dossier asked = dossierAt(file);
        if (asked == null) {
            throw new IndexOutOfBoundsException("no such file");
        }
        return asked.first();
    }

    private static boolean isBidder(int bidder) {
        return bidder >= 0 && bidder < BIDDERS;
    }

    private static boolean isPair(int one, int other) {
        return isBidder(one) && isBidder(other) && one != other;
    }

    private static boolean isMoney(int sum) {
        return sum >= 1 && sum <= MOST_MONEY;
    }

    private Tender tenderAt(int number) {
        return number >= 0 && number < tenders.length ? tenders[number] : null;
    }

    private Dossier dossierAt(int number) {
        return number >= 0 && number < dossiers.length ? dossiers[number] : null;
    }

    private boolean hasDossier(int one, int other) {
        for (Dossier dossier : dossiers) {
            if (dossier != null && dossier.isOf(one) && dossier.isOf(other)) {
                return true;
            }
        }
        return false;
    }

    private int turnoverOf(int bidder) {
        int sum = 0;
        for (Tender tender : tenders) {
            if (tender != null) {
                sum += tender.incomeOf(bidder);
            }
        }
        return sum;
    }

    // Nothing of a suspicion is stored: an award or a passing on changes what later tenders count too.
    private int suspicionOf(int one, int other) {
        int sum = 0;
        for (int tender = 0; tender < tenders.length; tender++) {
            sum += countOf(tender, one, other);
        }
        return sum;
    }

    private int countOf(int number, int one, int other) {
        Tender tender = tenderAt(number);
        if (tender == null) {
            return 0;
        }
        int winner = tender.winner();
        if (winner != one && winner != other) {
            return 0;
        }
        int loser = winner == one ? other : one;
        int count = tender.signsOfLoser(loser);
        if (tender.isStanding(loser) && lastWinnerBefore(number, winner, loser) == loser) {
            count += COUNT_OF_TURN;
        }
        return count;
    }

    // A third bidder may have won the tender in which both last stood: then nobody of the pair has a turn.
    private int lastWinnerBefore(int number, int one, int other) {
        for (int earlier = number - 1; earlier >= 0; earlier--) {
            Tender tender = tenderAt(earlier);
            if (tender != null && tender.isAwarded() && tender.isStanding(one) && tender.isStanding(other)) {
                return tender.winner();
            }
        }
        return NOBODY;
    }

    private int settle(Dossier dossier, int bidder) {
        if (!isBidder(bidder)) {
            return 0;
        }
        int due = dossier.lenientFine(bidder, turnoverOf(bidder) / TURNOVER_PER_FINE);
        int taken = Math.min(due, paidToHarmed[bidder]);
        paidToHarmed[bidder] -= taken;
        dossier.impose(bidder, due - taken);
        return due - taken;
    }

    private static final class Tender {
        // A sum of 0 stands for no bid; a withdrawn bid keeps its sum.
        private final int[] sums = new int[BIDDERS];
        private final boolean[] withdrawn = new boolean[BIDDERS];
        private boolean decided = false;
        private int winner = NOBODY;
        private int partner = NOBODY;
        private int partnersPart = 0;

        boolean isOpen() {
            return !decided;
        }

        boolean isAwarded() {
            return winner != NOBODY;
        }

        boolean isPassedOn() {
            return partner != NOBODY;
        }

        int winner() {
            return winner;
        }

        int sumOf(int bidder) {
            return isBidder(bidder) ? sums[bidder] : 0;
        }

        boolean hasBidOf(int bidder) {
            return isBidder(bidder) && sums[bidder] > 0;
        }

        boolean hasWithdrawn(int bidder) {
            return isBidder(bidder) && withdrawn[bidder];
        }

        boolean isStanding(int bidder) {
            return isBidder(bidder) && sums[bidder] > 0 && !withdrawn[bidder];
        }

        int countStanding() {
            int count = 0;
            for (int bidder = 0; bidder < BIDDERS; bidder++) {
                if (isStanding(bidder)) {
                    count++;
                }
            }
            return count;
        }

        void takeBid(int bidder, int sum) {
            if (isBidder(bidder)) {
                sums[bidder] = sum;
            }
        }

        void giveBack(int bidder) {
            if (isBidder(bidder)) {
                withdrawn[bidder] = true;
            }
        }

        void decide() {
            int best = NOBODY;
            // Upwards, and only a lesser bid wins over: so the lowest number gets a tie.
            for (int bidder = 0; bidder < BIDDERS; bidder++) {
                if (isStanding(bidder) && (best == NOBODY || sumOf(bidder) < sumOf(best))) {
                    best = bidder;
                }
            }
            winner = best;
            decided = true;
        }

        void giveOver(int bidder, int part) {
            partner = bidder;
            partnersPart = part;
        }

        int incomeOf(int bidder) {
            if (bidder == winner) {
                return sumOf(bidder) - partnersPart;
            }
            return bidder == partner ? partnersPart : 0;
        }

        int signsOfLoser(int loser) {
            int count = 0;
            if (isStanding(loser) && isNear(sumOf(loser))) {
                count += COUNT_OF_NEAR_BID;
            }
            if (partner == loser && hasBidOf(loser)) {
                count += COUNT_OF_PASSED_WORK;
            }
            if (hasWithdrawn(loser)) {
                count += COUNT_OF_WITHDRAWN_BID;
            }
            return count;
        }

        private boolean isNear(int sum) {
            int best = sumOf(winner);
            return sum > best && sum - best <= best * NEAR_HUNDREDTHS / 100;
        }
    }

    private static final class Dossier {
        private final int one;
        private final int other;
        private final boolean[] untold = new boolean[MOST_TENDERS];
        private final int[] newTellings = new int[BIDDERS];
        private final int[] fines = new int[BIDDERS];
        private int matterCount = 0;
        private int first = NOBODY;
        private boolean closed = false;

        Dossier(int one, int other) {
            this.one = one;
            this.other = other;
        }

        int one() {
            return one;
        }

        int other() {
            return other;
        }

        boolean isOf(int bidder) {
            return bidder == one || bidder == other;
        }

        boolean isClosed() {
            return closed;
        }

        void shut() {
            closed = true;
        }

        int matterCount() {
            return matterCount;
        }

        int first() {
            return first;
        }

        int fineOf(int bidder) {
            return isBidder(bidder) ? fines[bidder] : 0;
        }

        void impose(int bidder, int money) {
            if (isBidder(bidder)) {
                fines[bidder] = money;
            }
        }

        void addMatter(int tender) {
            if (tender >= 0 && tender < untold.length) {
                untold[tender] = true;
                matterCount++;
            }
        }

        boolean hear(int bidder, int tender) {
            if (!isBidder(bidder) || tender < 0 || tender >= untold.length || !untold[tender]) {
                return false;
            }
            untold[tender] = false;
            newTellings[bidder]++;
            if (first == NOBODY) {
                first = bidder;
            }
            return true;
        }

        int lenientFine(int bidder, int full) {
            int news = isBidder(bidder) ? newTellings[bidder] : 0;
            if (news == 0) {
                return full;
            }
            if (bidder != first) {
                return full - full / 4;
            }
            // Doubled, as half of an odd number of matters is no whole number.
            return 2 * news >= matterCount ? 0 : full / 2;
        }
    }
}
