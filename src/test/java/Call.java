import java.util.function.ToLongFunction;

/** One call of a watch, to be put to any watch; true counts 1 and false 0. */
record Call(String name, int[] arguments, ToLongFunction<CartelWatch> made) {
    static Call open() {
        return of("open", CartelWatch::open);
    }

    static Call bid(int tender, int bidder, int sum) {
        return of("bid", watch -> watch.bid(tender, bidder, sum), tender, bidder, sum);
    }

    static Call withdraw(int tender, int bidder) {
        return of("withdraw", watch -> watch.withdraw(tender, bidder), tender, bidder);
    }

    static Call award(int tender) {
        return of("award", watch -> watch.award(tender), tender);
    }

    static Call passOn(int tender, int bidder, int part) {
        return of("passOn", watch -> watch.passOn(tender, bidder, part), tender, bidder, part);
    }

    static Call turnover(int bidder) {
        return of("turnover", watch -> watch.turnover(bidder), bidder);
    }

    static Call won(int bidder) {
        return of("won", watch -> watch.won(bidder), bidder);
    }

    static Call suspicion(int one, int other) {
        return of("suspicion", watch -> watch.suspicion(one, other), one, other);
    }

    static Call sign(int tender, int one, int other) {
        return of("sign", watch -> watch.sign(tender, one, other), tender, one, other);
    }

    static Call setMark(int mark) {
        return of("setMark", watch -> watch.setMark(mark), mark);
    }

    static Call worst() {
        return of("worst", CartelWatch::worst);
    }

    static Call file(int one, int other) {
        return of("file", watch -> watch.file(one, other), one, other);
    }

    static Call matters(int file) {
        return of("matters", watch -> watch.matters(file), file);
    }

    static Call tell(int file, int bidder, int tender) {
        return of("tell", watch -> watch.tell(file, bidder, tender) ? 1 : 0, file, bidder, tender);
    }

    static Call compensate(int bidder, int money) {
        return of("compensate", watch -> watch.compensate(bidder, money), bidder, money);
    }

    static Call close(int file) {
        return of("close", watch -> watch.close(file), file);
    }

    static Call fine(int file, int bidder) {
        return of("fine", watch -> watch.fine(file, bidder), file, bidder);
    }

    static Call firstTeller(int file) {
        return of("firstTeller", watch -> watch.firstTeller(file), file);
    }

    private static Call of(String name, ToLongFunction<CartelWatch> made, int... arguments) {
        return new Call(name, arguments, made);
    }

    String text() {
        StringBuilder text = new StringBuilder(name).append('(');
        for (int i = 0; i < arguments.length; i++) {
            text.append(i == 0 ? "" : ", ").append(arguments[i]);
        }
        return text.append(')').toString();
    }

    /** The answer as text: the number, or throws. and the exception's name. */
    String answerOf(CartelWatch watch) {
        return Checks.answer(() -> made.applyAsLong(watch));
    }
}
