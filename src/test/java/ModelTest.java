import java.util.ArrayList;
import java.util.HashMap;
import java.util.HashSet;
import java.util.List;
import java.util.Map;
import java.util.Random;
import java.util.Set;
import java.util.TreeMap;
import java.util.function.LongSupplier;

/**
 * Long runs of calls, right and wrong ones, each answered by the watch and by a second reading of the document.
 * Promises 1 to 19; as the model changes nothing when it refuses, neither may the watch.
 */
public final class ModelTest {
    private static final int RUNS = 1500;
    private static final int CALLS = 512;
    private static final int[] SUMS = {1, 2, 19, 20, 21, 39, 40, 41, 42, 100, 104, 105, 106, 95238, 99999, 100000};
    private static final Map<String, Integer> seen = new TreeMap<>();

    public static void main(String[] args) {
        for (int run = 0; run < RUNS; run++) {
            new Run(run).all();
        }
        everyAnswerWasSeen();
        Checks.end();
    }

    /** A call that never answers, or never refuses, in all runs would be tested by nothing here. */
    private static void everyAnswerWasSeen() {
        String[] due = {
            "open ok", "open IllegalStateException",
            "bid ok", "bid IndexOutOfBoundsException", "bid IllegalArgumentException", "bid IllegalStateException",
            "withdraw ok", "withdraw IndexOutOfBoundsException", "withdraw IllegalArgumentException",
            "withdraw IllegalStateException",
            "award ok", "award IndexOutOfBoundsException", "award IllegalStateException",
            "passOn ok", "passOn IndexOutOfBoundsException", "passOn IllegalStateException",
            "passOn IllegalArgumentException",
            "turnover ok", "turnover IllegalArgumentException", "won ok", "won IllegalArgumentException",
            "suspicion ok", "suspicion IllegalArgumentException",
            "sign ok", "sign IndexOutOfBoundsException", "sign IllegalArgumentException",
            "setMark ok", "setMark IllegalArgumentException", "worst ok",
            "file ok", "file IllegalArgumentException", "file IllegalStateException",
            "matters ok", "matters IndexOutOfBoundsException",
            "tell ok", "tell IndexOutOfBoundsException", "tell IllegalArgumentException",
            "tell IllegalStateException",
            "compensate ok", "compensate IllegalArgumentException",
            "close ok", "close IndexOutOfBoundsException", "close IllegalStateException",
            "fine ok", "fine IndexOutOfBoundsException", "fine IllegalArgumentException",
            "firstTeller ok", "firstTeller IndexOutOfBoundsException",
        };
        for (String answer : due) {
            Checks.same("seen often: " + answer + " " + seen.get(answer), seen.getOrDefault(answer, 0) >= 20, true);
        }
        Checks.same("kinds of answers", seen.size(), due.length);
    }

    private static final class Run {
        private final int number;
        private final Random random;
        private final CartelWatch watch = new CartelWatch();
        private final Model model = new Model();
        private final int bidders;
        private final int sumFrom;
        private final int sumRange;
        private int asked = 0;

        Run(int number) {
            this.number = number;
            random = new Random(number);
            bidders = 2 + random.nextInt(6);
            sumFrom = SUMS[random.nextInt(SUMS.length - 3)];
            sumRange = 1 + random.nextInt(3) * random.nextInt(40);
        }

        void all() {
            if (random.nextInt(3) > 0) {
                int mark = 1 + random.nextInt(6);
                ask("setMark", () -> watch.setMark(mark), () -> model.setMark(mark));
            }
            while (asked < CALLS) {
                one();
            }
        }

        private void ask(String name, LongSupplier put, LongSupplier due) {
            asked++;
            String got = Checks.answer(put);
            Checks.same("run " + number + ": " + name, got, Checks.answer(due));
            String kind = got.startsWith("throws.") ? got.substring(7) : "ok";
            seen.merge(name.split("\\(")[0] + " " + kind, 1, Integer::sum);
        }

        /** The least or the greatest int, or any. */
        private int far() {
            int pick = random.nextInt(4);
            return pick == 0 ? Integer.MIN_VALUE : pick == 1 ? Integer.MAX_VALUE : random.nextInt();
        }

        private int bidder() {
            int pick = random.nextInt(90);
            return pick == 0 ? -1 : pick == 1 ? 7 : pick == 2 ? far() : random.nextInt(bidders);
        }

        private int tender() {
            int count = model.tenders.size();
            int pick = random.nextInt(90);
            if (pick < 3) {
                return pick == 0 ? -1 : pick == 1 ? count : far();
            }
            int back = random.nextInt(3) > 0 ? random.nextInt(4) : random.nextInt(31);
            return Math.max(0, count - 1 - back);
        }

        private int file() {
            int count = model.files.size();
            int pick = random.nextInt(60);
            return pick == 0 ? -1 : pick == 1 ? count : pick == 2 ? far() : random.nextInt(Math.max(1, count));
        }

        private int sum() {
            int pick = random.nextInt(120);
            if (pick < 3) {
                return pick == 0 ? 0 : pick == 1 ? 100001 : far();
            }
            return pick < 12 ? SUMS[random.nextInt(SUMS.length)] : sumFrom + random.nextInt(sumRange);
        }

        private void one() {
            int pick = random.nextInt(100);
            if (pick < 62) {
                ofTenders(pick);
            } else if (pick < 76) {
                ofSigns(pick - 62);
            } else {
                ofFiles(pick - 76);
            }
        }

        private void ofTenders(int pick) {
            int t = tender();
            int b = bidder();
            int s = sum();
            if (pick < 8) {
                ask("open()", watch::open, model::open);
            } else if (pick < 36) {
                ask("bid(" + t + ", " + b + ", " + s + ")", () -> watch.bid(t, b, s), () -> model.bid(t, b, s));
            } else if (pick < 42) {
                ask("withdraw(" + t + ", " + b + ")", () -> watch.withdraw(t, b), () -> model.withdraw(t, b));
            } else if (pick < 51) {
                ask("award(" + t + ")", () -> watch.award(t), () -> model.award(t));
            } else if (pick < 56) {
                ask("passOn(" + t + ", " + b + ", " + s + ")",
                        () -> watch.passOn(t, b, s), () -> model.passOn(t, b, s));
            } else if (pick < 59) {
                ask("turnover(" + b + ")", () -> watch.turnover(b), () -> model.turnover(b));
            } else {
                ask("won(" + b + ")", () -> watch.won(b), () -> model.won(b));
            }
        }

        private void ofSigns(int pick) {
            int t = tender();
            int one = bidder();
            int other = bidder();
            if (pick < 5) {
                ask("suspicion(" + one + ", " + other + ")",
                        () -> watch.suspicion(one, other), () -> model.suspicion(one, other));
            } else if (pick < 11) {
                ask("sign(" + t + ", " + one + ", " + other + ")",
                        () -> watch.sign(t, one, other), () -> model.sign(t, one, other));
            } else if (pick < 12) {
                int mark = random.nextInt(20) == 0 ? 1001 : random.nextInt(12);
                ask("setMark(" + mark + ")", () -> watch.setMark(mark), () -> model.setMark(mark));
            } else {
                ask("worst()", watch::worst, model::worst);
            }
        }

        private void ofFiles(int pick) {
            int f = file();
            int b = bidder();
            int other = bidder();
            int t = tender();
            int s = sum();
            if (pick < 5) {
                ask("file(" + b + ", " + other + ")", () -> watch.file(b, other), () -> model.file(b, other));
            } else if (pick < 7) {
                ask("matters(" + f + ")", () -> watch.matters(f), () -> model.matters(f));
            } else if (pick < 14) {
                ask("tell(" + f + ", " + b + ", " + t + ")",
                        () -> watch.tell(f, b, t) ? 1 : 0, () -> model.tell(f, b, t));
            } else if (pick < 16) {
                ask("compensate(" + b + ", " + s + ")", () -> watch.compensate(b, s), () -> model.compensate(b, s));
            } else if (pick < 18) {
                if (random.nextInt(2) == 0) {
                    ask("close(" + f + ")", () -> watch.close(f), () -> model.close(f));
                }
            } else if (pick < 22) {
                ask("fine(" + f + ", " + b + ")", () -> watch.fine(f, b), () -> model.fine(f, b));
            } else {
                ask("firstTeller(" + f + ")", () -> watch.firstTeller(f), () -> model.firstTeller(f));
            }
        }
    }

    private static final class ModelTender {
        final TreeMap<Integer, Integer> standing = new TreeMap<>();
        final TreeMap<Integer, Integer> gone = new TreeMap<>();
        String state = "open";
        int winner = -1;
        int price = 0;
        int passedTo = -1;
        int part = 0;

        boolean bothStand(int one, int other) {
            return standing.containsKey(one) && standing.containsKey(other);
        }
    }

    private static final class ModelFile {
        final Set<Integer> pair = new HashSet<>();
        final Set<Integer> matters = new HashSet<>();
        final Map<Integer, Integer> tellerOf = new HashMap<>();
        final Map<Integer, Long> fines = new HashMap<>();
        int first = -1;
    }

    private static final class Model {
        final List<ModelTender> tenders = new ArrayList<>();
        final List<ModelFile> files = new ArrayList<>();
        final Map<Integer, Long> paid = new HashMap<>();
        int mark = 10;

        private static void index(boolean fits) {
            if (!fits) {
                throw new IndexOutOfBoundsException();
            }
        }

        private static void argument(boolean fits) {
            if (!fits) {
                throw new IllegalArgumentException();
            }
        }

        private static void state(boolean fits) {
            if (!fits) {
                throw new IllegalStateException();
            }
        }

        private static boolean in(int value, int least, int most) {
            return least <= value && value <= most;
        }

        private ModelTender tender(int number) {
            index(in(number, 0, tenders.size() - 1));
            return tenders.get(number);
        }

        private ModelFile dossier(int number) {
            index(in(number, 0, files.size() - 1));
            return files.get(number);
        }

        private static void pair(int one, int other) {
            argument(in(one, 0, 6) && in(other, 0, 6) && one != other);
        }

        long open() {
            state(tenders.size() < 30);
            tenders.add(new ModelTender());
            return tenders.size() - 1;
        }

        long bid(int number, int bidder, int sum) {
            ModelTender tender = tender(number);
            argument(in(bidder, 0, 6) && in(sum, 1, 100000));
            state(tender.state.equals("open"));
            state(!tender.standing.containsKey(bidder) && !tender.gone.containsKey(bidder));
            tender.standing.put(bidder, sum);
            return tender.standing.size();
        }

        long withdraw(int number, int bidder) {
            ModelTender tender = tender(number);
            argument(in(bidder, 0, 6));
            state(tender.state.equals("open") && tender.standing.containsKey(bidder));
            int sum = tender.standing.remove(bidder);
            tender.gone.put(bidder, sum);
            return sum;
        }

        long award(int number) {
            ModelTender tender = tender(number);
            state(tender.state.equals("open"));
            if (tender.standing.isEmpty()) {
                tender.state = "void";
                return -1;
            }
            tender.state = "awarded";
            tender.price = Integer.MAX_VALUE;
            for (int bidder : tender.standing.descendingKeySet()) {
                if (tender.standing.get(bidder) <= tender.price) {
                    tender.price = tender.standing.get(bidder);
                    tender.winner = bidder;
                }
            }
            return tender.winner;
        }

        long passOn(int number, int bidder, int part) {
            ModelTender tender = tender(number);
            state(tender.state.equals("awarded") && tender.passedTo == -1);
            argument(in(bidder, 0, 6) && in(part, 1, tender.price) && bidder != tender.winner);
            tender.passedTo = bidder;
            tender.part = part;
            return tender.winner;
        }

        long turnover(int bidder) {
            argument(in(bidder, 0, 6));
            long sum = 0;
            for (ModelTender tender : tenders) {
                sum += tender.winner == bidder ? tender.price : 0;
                sum += tender.passedTo == bidder ? tender.part : 0;
                sum -= tender.winner == bidder ? tender.part : 0;
            }
            return Math.max(0, sum);
        }

        long won(int bidder) {
            argument(in(bidder, 0, 6));
            return tenders.stream().filter(tender -> tender.winner == bidder).count();
        }

        long sign(int number, int one, int other) {
            ModelTender tender = tender(number);
            pair(one, other);
            if (tender.winner == other) {
                return sign(number, other, one);
            }
            if (tender.winner != one) {
                return 0;
            }
            long count = 0;
            if (tender.standing.containsKey(other)) {
                long more = tender.standing.get(other) - tender.price;
                count += more > 0 && more <= Math.floor(tender.price * 5L / 100) ? 2 : 0;
            }
            if (tender.passedTo == other) {
                count += tender.standing.containsKey(other) || tender.gone.containsKey(other) ? 3 : 0;
            }
            count += tender.gone.containsKey(other) ? 1 : 0;
            return count + (isTurn(number, one, other) ? 4 : 0);
        }

        private boolean isTurn(int number, int winner, int other) {
            ModelTender last = null;
            for (int i = 0; i < number; i++) {
                ModelTender lower = tenders.get(i);
                if (lower.state.equals("awarded") && lower.bothStand(winner, other)) {
                    last = lower;
                }
            }
            return last != null && last.winner == other && tenders.get(number).bothStand(winner, other);
        }

        long suspicion(int one, int other) {
            pair(one, other);
            long sum = 0;
            for (int number = 0; number < tenders.size(); number++) {
                sum += sign(number, one, other);
            }
            return sum;
        }

        long setMark(int to) {
            argument(in(to, 1, 1000));
            int before = mark;
            mark = to;
            return before;
        }

        long worst() {
            long best = -1;
            long greatest = 1;
            for (int number = 56; number > 0; number--) {
                int lower = number / 10;
                int higher = number % 10;
                if (lower < higher && higher < 7 && suspicion(lower, higher) >= greatest) {
                    greatest = suspicion(lower, higher);
                    best = number;
                }
            }
            return best;
        }

        long file(int one, int other) {
            pair(one, other);
            Set<Integer> both = Set.of(one, other);
            state(suspicion(one, other) >= mark && files.size() < 20);
            for (ModelFile file : files) {
                state(!file.pair.equals(both));
            }
            ModelFile file = new ModelFile();
            file.pair.addAll(both);
            for (int number = 0; number < tenders.size(); number++) {
                if (sign(number, one, other) != 0) {
                    file.matters.add(number);
                }
            }
            files.add(file);
            return files.size() - 1;
        }

        long matters(int number) {
            return dossier(number).matters.size();
        }

        long tell(int number, int bidder, int tender) {
            ModelFile file = dossier(number);
            tender(tender);
            argument(file.pair.contains(bidder));
            state(file.fines.isEmpty());
            if (!file.matters.contains(tender) || file.tellerOf.containsKey(tender)) {
                return 0;
            }
            file.first = file.tellerOf.isEmpty() ? bidder : file.first;
            file.tellerOf.put(tender, bidder);
            return 1;
        }

        long compensate(int bidder, int money) {
            argument(in(bidder, 0, 6) && in(money, 1, 100000));
            return paid.merge(bidder, (long) money, Long::sum);
        }

        long close(int number) {
            ModelFile file = dossier(number);
            state(file.fines.isEmpty());
            long total = 0;
            for (int bidder : file.pair) {
                long fine = turnover(bidder) / 10;
                long news = file.tellerOf.values().stream().filter(teller -> teller == bidder).count();
                if (bidder == file.first) {
                    fine = news >= file.matters.size() / 2.0 ? 0 : fine / 2;
                } else if (news > 0) {
                    fine -= fine / 4;
                }
                long taken = Math.min(fine, paid.getOrDefault(bidder, 0L));
                paid.merge(bidder, -taken, Long::sum);
                file.fines.put(bidder, fine - taken);
                total += fine - taken;
            }
            return total;
        }

        long fine(int number, int bidder) {
            ModelFile file = dossier(number);
            argument(file.pair.contains(bidder));
            return file.fines.getOrDefault(bidder, 0L);
        }

        long firstTeller(int number) {
            return dossier(number).first;
        }
    }
}
