import java.util.ArrayList;
import java.util.List;
import java.util.function.LongSupplier;

/**
 * A watch that remembers its calls. So a test can look at all that a refused call must leave as it was: the run is
 * put again to new watches, with and without that call, and each is asked. No object gets more than 512 calls, as
 * nothing is promised of later ones.
 */
final class Watched {
    static final int CALLS = 512;

    private final CartelWatch watch = new CartelWatch();
    private final List<Call> calls = new ArrayList<>();
    private int tenders = 0;
    private int files = 0;

    private long make(Call call) {
        if (calls.size() == CALLS) {
            throw new AssertionError("the test makes more calls than an object is used for");
        }
        calls.add(call);
        return call.made().applyAsLong(watch);
    }

    int calls() {
        return calls.size();
    }

    int open() {
        int answer = (int) make(Call.open());
        tenders++;
        return answer;
    }

    int bid(int tender, int bidder, int sum) {
        return (int) make(Call.bid(tender, bidder, sum));
    }

    int withdraw(int tender, int bidder) {
        return (int) make(Call.withdraw(tender, bidder));
    }

    int award(int tender) {
        return (int) make(Call.award(tender));
    }

    int passOn(int tender, int bidder, int part) {
        return (int) make(Call.passOn(tender, bidder, part));
    }

    int turnover(int bidder) {
        return (int) make(Call.turnover(bidder));
    }

    int won(int bidder) {
        return (int) make(Call.won(bidder));
    }

    int suspicion(int one, int other) {
        return (int) make(Call.suspicion(one, other));
    }

    int sign(int tender, int one, int other) {
        return (int) make(Call.sign(tender, one, other));
    }

    int setMark(int mark) {
        return (int) make(Call.setMark(mark));
    }

    int worst() {
        return (int) make(Call.worst());
    }

    int file(int one, int other) {
        int answer = (int) make(Call.file(one, other));
        files++;
        return answer;
    }

    int matters(int file) {
        return (int) make(Call.matters(file));
    }

    boolean tell(int file, int bidder, int tender) {
        return make(Call.tell(file, bidder, tender)) == 1;
    }

    int compensate(int bidder, int money) {
        return (int) make(Call.compensate(bidder, money));
    }

    int close(int file) {
        return (int) make(Call.close(file));
    }

    int fine(int file, int bidder) {
        return (int) make(Call.fine(file, bidder));
    }

    int firstTeller(int file) {
        return (int) make(Call.firstTeller(file));
    }

    /** Opens and awards a tender in which two bid; answers its number. */
    int contest(int one, int sumOfOne, int other, int sumOfOther) {
        return contestOf(one, sumOfOne, other, sumOfOther, false);
    }

    /** Such a tender, from which the other one withdraws before the award, or not. */
    int contestOf(int one, int sumOfOne, int other, int sumOfOther, boolean otherWithdraws) {
        int tender = open();
        bid(tender, one, sumOfOne);
        bid(tender, other, sumOfOther);
        if (otherWithdraws) {
            withdraw(tender, other);
        }
        award(tender);
        return tender;
    }

    /** A tender that one wins for 1000 and that, but for turns, counts 2 for the pair; answers its number. */
    int near(int winner, int loser) {
        return contest(winner, 1000, loser, 1001);
    }

    /** A tender in which one bids alone and that it wins; answers its number. */
    int alone(int winner, int sum) {
        int tender = open();
        bid(tender, winner, sum);
        award(tender);
        return tender;
    }

    void refusedIndex(String why, LongSupplier made) {
        refused(why, made, "IndexOutOfBoundsException");
    }

    void refusedArgument(String why, LongSupplier made) {
        refused(why, made, "IllegalArgumentException");
    }

    void refusedState(String why, LongSupplier made) {
        refused(why, made, "IllegalStateException");
    }

    private void refused(String why, LongSupplier made, String exception) {
        List<Call> without = List.copyOf(calls);
        String answer = Checks.answer(made);
        if (calls.size() != without.size() + 1) {
            throw new AssertionError("what is refused must be one call: " + why);
        }
        String refused = calls.get(without.size()).text();
        Checks.same(why + ", " + refused, answer, "throws." + exception);
        // The call that is refused counts too; so the runs with and without it are asked as much.
        int room = CALLS - calls.size();
        for (List<Call> round : rounds(room)) {
            Checks.same(why + ", after the refused " + refused, answers(calls, round), answers(without, round));
        }
    }

    private static String answers(List<Call> run, List<Call> round) {
        CartelWatch fresh = new CartelWatch();
        for (Call call : run) {
            call.answerOf(fresh);
        }
        StringBuilder text = new StringBuilder();
        for (Call call : round) {
            text.append(call.text()).append(" = ").append(call.answerOf(fresh)).append("; ");
        }
        return text.toString();
    }

    /** Rounds of questions that, each put to a new watch after the run, bring all of its state to light. */
    private List<List<Call>> rounds(int room) {
        List<List<Call>> rounds = new ArrayList<>();
        List<Call> plain = plainQuestions();
        for (int from = 0; from < plain.size() && room > 0; from += room) {
            rounds.add(plain.subList(from, Math.min(plain.size(), from + room)));
        }
        rounds.add(opening());
        rounds.add(filing());
        for (int tender = 0; tender <= tenders; tender++) {
            rounds.add(bidding(tender));
            rounds.add(awarding(tender));
        }
        for (int file = 0; file <= files; file++) {
            rounds.add(closing(file));
            rounds.add(telling(file, 0, 1));
            rounds.add(telling(file, 6, -1));
        }
        rounds.replaceAll(round -> round.subList(0, Math.min(room, round.size())));
        return rounds;
    }

    /** The calls that change nothing. */
    private List<Call> plainQuestions() {
        List<Call> asked = new ArrayList<>();
        asked.add(Call.worst());
        for (int one = 0; one < 7; one++) {
            asked.add(Call.turnover(one));
            asked.add(Call.won(one));
            for (int other = one + 1; other < 7; other++) {
                asked.add(Call.suspicion(one, other));
                for (int tender = 0; tender <= tenders; tender++) {
                    asked.add(Call.sign(tender, one, other));
                }
            }
        }
        for (int file = 0; file <= files; file++) {
            asked.add(Call.matters(file));
            asked.add(Call.firstTeller(file));
            for (int bidder = 0; bidder < 7; bidder++) {
                asked.add(Call.fine(file, bidder));
            }
        }
        return asked;
    }

    private static List<Call> opening() {
        List<Call> asked = new ArrayList<>();
        asked.add(Call.setMark(1));
        asked.add(Call.open());
        asked.add(Call.open());
        for (int bidder = 0; bidder < 7; bidder++) {
            asked.add(Call.compensate(bidder, 1));
        }
        return asked;
    }

    private static List<Call> filing() {
        List<Call> asked = new ArrayList<>();
        asked.add(Call.setMark(1));
        for (int one = 0; one < 7; one++) {
            for (int other = one + 1; other < 7; other++) {
                asked.add(Call.file(one, other));
            }
        }
        return asked;
    }

    private static List<Call> bidding(int tender) {
        List<Call> asked = new ArrayList<>();
        for (int bidder = 0; bidder < 7; bidder++) {
            asked.add(Call.withdraw(tender, bidder));
        }
        for (int bidder = 0; bidder < 7; bidder++) {
            asked.add(Call.bid(tender, bidder, 1));
        }
        asked.add(Call.award(tender));
        return asked;
    }

    private static List<Call> awarding(int tender) {
        List<Call> asked = new ArrayList<>();
        asked.add(Call.award(tender));
        for (int bidder = 0; bidder < 7; bidder++) {
            asked.add(Call.passOn(tender, bidder, 1));
        }
        for (int bidder = 0; bidder < 7; bidder++) {
            asked.add(Call.turnover(bidder));
            asked.add(Call.won(bidder));
        }
        return asked;
    }

    private static List<Call> closing(int file) {
        List<Call> asked = new ArrayList<>();
        asked.add(Call.close(file));
        for (int bidder = 0; bidder < 7; bidder++) {
            asked.add(Call.fine(file, bidder));
            asked.add(Call.compensate(bidder, 1));
        }
        return asked;
    }

    private List<Call> telling(int file, int firstBidder, int step) {
        List<Call> asked = new ArrayList<>();
        for (int bidder = firstBidder; bidder >= 0 && bidder < 7; bidder += step) {
            for (int tender = 0; tender < tenders; tender++) {
                asked.add(Call.tell(file, bidder, tender));
            }
        }
        asked.add(Call.firstTeller(file));
        asked.addAll(closing(file));
        return asked;
    }
}
