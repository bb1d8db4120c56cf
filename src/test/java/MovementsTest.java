import java.util.NoSuchElementException;

/** Promises 29 to 36: movements that add up, shares of service and their bits, and reasons. */
final class MovementsTest {
    private static final Class<?> INDEX = IndexOutOfBoundsException.class;
    private static final Class<?> ARGUMENT = IllegalArgumentException.class;
    private static final Class<?> ARITHMETIC = ArithmeticException.class;
    private static final Class<?> ELEMENT = NoSuchElementException.class;

    public static void main(String[] args) {
        movementsAreCounted();
        movementsAddUp();
        sharesAreTold();
        sharesOfSubstitutesCountForTheRequestedPart();
        sharesAreRefused();
        bitsAreThoseOfFloats();
        theWeakestIsTold();
        equalSharesAsFloatsAreEqual();
        averagesAreTold();
        averagesAreRefused();
        reasonsAreKept();
        reasonsAreRefused();
        Check.end("MovementsTest");
    }

    private static void movementsAreCounted() {
        Recorded x = new Recorded();
        x.addPart(7, 1, 1, 50);
        x.addPart(6, 1, 1, 50);
        x.setBounds(0, 9, 10);
        x.giveBack(0, 1, true);
        x.advance(2);
        x.giveBack(0, 6, false);
        x.send(0, 5);
        x.advance(1);
        x.request(0, 4);
        int[] due = {7, 2, 1, 6, 5, 2, 3, 4};
        for (int movement = 0; movement < 8; movement++) {
            Check.due("movement(0, " + movement + ")", x.movement(0, movement), due[movement]);
            Check.due("movement(1, " + movement + ")", x.movement(1, movement), movement == 0 ? 6 : 0);
        }
        Check.refuses(x, "movement(2, 8) of 2", INDEX, () -> x.movement(2, 8));
        Check.refuses(x, "movement(-1, 0)", INDEX, () -> x.movement(-1, 0));
        Check.refuses(x, "movement(0, 8)", ARGUMENT, () -> x.movement(0, 8));
        Check.refuses(x, "movement(0, -1)", ARGUMENT, () -> x.movement(0, -1));
    }

    private static void movementsAddUp() {
        Recorded x = new Recorded();
        Check.due("audit without parts", x.audit(), 0);
        x.addPart(7, 2, 3, 35);
        x.addPart(0, 1, 1, 50);
        x.addSubstitute(1, 0);
        x.setBounds(0, 9, 20);
        x.addKit(0, 1, 3);
        for (int round = 0; round < 10; round++) {
            x.giveBack(0, 6, false);
            x.send(0, 5);
            Check.outcome(() -> x.take(0));
            x.request(1, 9);
            x.advance(2);
            Check.due("audit of round " + round, x.audit(), 0);
        }
        x.undo();
        Check.due("audit behind undo", x.audit(), 0);
    }

    private static void sharesAreTold() {
        Recorded x = new Recorded();
        x.addPart(2, 9, 1, 100);
        x.request(0, 2);
        Check.same("all at once", x.service(0), 1f);
        x.request(0, 1);
        Check.same("two of three", x.service(0), 2f / 3f);
        x.giveBack(0, 5, true);
        Check.same("what is served later does not count", x.service(0), 2f / 3f);
        x.request(0, 4);
        Check.same("six of seven", x.service(0), 6f / 7f);
        Recorded none = new Recorded();
        none.addPart(0, 1, 1, 100);
        none.request(0, 5);
        Check.same("none of five", none.service(0), 0f);
    }

    private static void sharesOfSubstitutesCountForTheRequestedPart() {
        Recorded x = new Recorded();
        x.addPart(1, 1, 1, 100);
        x.addPart(3, 1, 1, 100);
        x.addSubstitute(0, 1);
        x.request(0, 5);
        Check.same("the requested part", x.service(0), 4f / 5f);
        Check.same("the substitute", Check.outcome(() -> x.service(1)), "ArithmeticException");
    }

    private static void sharesAreRefused() {
        Recorded x = new Recorded();
        x.addPart(1, 1, 1, 100);
        Check.refuses(x, "service(1) of 1", INDEX, () -> x.service(1));
        Check.refuses(x, "service(-1)", INDEX, () -> x.service(-1));
        Check.refuses(x, "service(0)", ARITHMETIC, () -> x.service(0));
        Check.refuses(x, "serviceBits(1) of 1", INDEX, () -> x.serviceBits(1));
        Check.refuses(x, "serviceBits(-1)", INDEX, () -> x.serviceBits(-1));
        Check.refuses(x, "serviceBits(0)", ARITHMETIC, () -> x.serviceBits(0));
        x.request(0, 1);
        x.undo();
        Check.refuses(x, "service(0) behind undo", ARITHMETIC, () -> x.service(0));
    }

    private static void bitsAreThoseOfFloats() {
        for (int requested = 1; requested <= 999; requested += 7) {
            for (int stock = 0; stock <= requested; stock += 13) {
                Recorded x = new Recorded();
                x.addPart(stock, 1, 1, 100);
                x.request(0, requested);
                float share = (float) stock / (float) requested;
                Check.same("the share " + stock + " of " + requested, x.service(0), share);
                Check.due("its bits", x.serviceBits(0), Float.floatToIntBits(share));
                Check.due("the bits of the average", x.averageBits(), Double.doubleToLongBits(share));
            }
        }
        Recorded x = new Recorded();
        x.addPart(1, 1, 1, 100);
        for (int i = 0; i < 200; i++) {
            x.request(0, 999);
            x.cancel(0);
        }
        Check.due("the bits of a small share", x.serviceBits(0), Float.floatToIntBits(1f / 199800f));
        Check.due("and of its average", x.averageBits(), Double.doubleToLongBits(1f / 199800f));
    }

    private static Recorded withShares(int[][] shares) {
        Recorded x = new Recorded();
        for (int[] share : shares) {
            x.addPart(share[0], 9, 1, 100);
        }
        for (int part = 0; part < shares.length; part++) {
            if (shares[part][1] > 0) {
                x.request(part, shares[part][1]);
            }
        }
        return x;
    }

    private static void theWeakestIsTold() {
        Check.due("the least share", withShares(new int[][] {{2, 3}, {1, 2}, {5, 5}}).weakest(), 1);
        Check.due("the lowest number", withShares(new int[][] {{3, 3}, {1, 2}, {2, 4}}).weakest(), 1);
        Check.due("only requested parts", withShares(new int[][] {{5, 0}, {9, 0}, {2, 2}}).weakest(), 2);
        Check.due("none at once", withShares(new int[][] {{1, 9}, {0, 9}, {0, 1}}).weakest(), 1);
        Check.due("one piece is enough", withShares(new int[][] {{1, 0}, {1, 1}}).weakest(), 1);
        Recorded x = withShares(new int[][] {{5, 0}, {9, 0}});
        Check.refuses(x, "weakest of none", ELEMENT, x::weakest);
        Recorded empty = new Recorded();
        Check.refuses(empty, "weakest without parts", ELEMENT, empty::weakest);
    }

    /** Two shares that differ, but not as floats: a share is told as a float, so they are equal. */
    private static void equalSharesAsFloatsAreEqual() {
        Recorded x = new Recorded();
        x.addPart(0, 9, 1, 100);
        x.addPart(0, 9, 1, 100);
        requestOf(x, 0, 49999, 99997);
        requestOf(x, 1, 50000, 99999);
        Check.due("the lowest number", x.weakest(), 0);
        Check.same("equal shares", x.service(0), x.service(1));
        Check.same("of the numbers that are due", x.service(0), 50000f / 99999f);
    }

    /** Requests so many pieces of a part in all, of which so many are served at once. */
    private static void requestOf(Recorded x, int part, int served, int requested) {
        for (int rest = served; rest > 0; rest -= 999) {
            x.giveBack(part, Math.min(rest, 999), true);
        }
        for (int rest = requested; rest > 0; rest -= 999) {
            int quantity = Math.min(rest, 999);
            if (x.request(part, quantity) < quantity) {
                x.cancel(0);
            }
        }
    }

    private static void averagesAreTold() {
        Recorded x = withShares(new int[][] {{2, 3}, {1, 7}, {9, 0}, {5, 5}, {1, 3}, {0, 4}});
        double due = ((double) (2f / 3f) + (double) (1f / 7f) + 1.0 + (double) (1f / 3f) + 0.0) / 5.0;
        Check.same("averageService", x.averageService(), due);
        Check.due("averageBits", x.averageBits(), Double.doubleToLongBits(due));
        Recorded one = withShares(new int[][] {{1, 1}});
        Check.same("the average of one", one.averageService(), 1.0);
        Check.due("its bits", one.averageBits(), Double.doubleToLongBits(1.0));
        Recorded none = withShares(new int[][] {{0, 1}, {0, 2}});
        Check.same("the average of nothing served", none.averageService(), 0.0);
        Check.due("its bits", none.averageBits(), 0L);
    }

    private static void averagesAreRefused() {
        Recorded x = withShares(new int[][] {{5, 0}});
        Check.refuses(x, "averageService", ARITHMETIC, x::averageService);
        Check.refuses(x, "averageBits", ARITHMETIC, x::averageBits);
    }

    private static void reasonsAreKept() {
        Recorded x = new Recorded();
        x.addPart(0, 9, 1, 100);
        x.addPart(3, 9, 1, 100);
        x.addKit(0, 1, 7);
        Check.same("take", Check.outcome(() -> x.take(0)), "UnsupportedOperationException");
        Check.due("reason of take", x.reason(0), 3);
        Check.due("the part", x.reason(1), 1);
        Check.due("missing", x.reason(2), 4);
        Check.same("send", Check.outcome(() -> x.send(0, 1)), "UnsupportedOperationException");
        Check.due("reason of send", x.reason(0), 2);
        Check.refuses(x, "reason(1) behind send", ELEMENT, () -> x.reason(1));
        Check.refuses(x, "reason(2) behind send", ELEMENT, () -> x.reason(2));
        for (int i = 0; i < 12; i++) {
            x.request(0, 1);
        }
        Check.same("request", Check.outcome(() -> x.request(0, 1)), "IllegalStateException");
        Check.due("reason of request", x.reason(0), 1);
        Check.refuses(x, "reason(1) behind request", ELEMENT, () -> x.reason(1));
        Check.same("take", Check.outcome(() -> x.take(0)), "UnsupportedOperationException");
        x.undo();
        x.request(1, 2);
        x.giveBack(0, 12, true);
        Check.due("reasons stay behind other calls", x.reason(0), 3);
        Check.due("the part, too", x.reason(1), 1);
        Check.due("what is missing, too", x.reason(2), 4);
    }

    private static void reasonsAreRefused() {
        Recorded x = new Recorded();
        Check.refuses(x, "reason(0) of none", ELEMENT, () -> x.reason(0));
        Check.refuses(x, "reason(1) of none", ELEMENT, () -> x.reason(1));
        Check.refuses(x, "reason(3) of none", ARGUMENT, () -> x.reason(3));
        Check.refuses(x, "reason(-1) of none", ARGUMENT, () -> x.reason(-1));
        x.addPart(0, 1, 1, 100);
        for (int part = 1; part < 8; part++) {
            x.addPart(0, 1, 1, 100);
        }
        Check.same("a ninth part", Check.outcome(() -> x.addPart(0, 1, 1, 100)), "IllegalStateException");
        Check.same("a wrong sample", Check.outcome(() -> x.sample(0, 0, 0)), "UnsupportedOperationException");
        Check.refuses(x, "other calls keep no reason", ELEMENT, () -> x.reason(0));
    }
}
