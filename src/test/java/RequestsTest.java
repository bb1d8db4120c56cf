/** Promises 14 to 21: requests, what could be served, what waits, and kits. */
final class RequestsTest {
    private static final Class<?> INDEX = IndexOutOfBoundsException.class;
    private static final Class<?> ARGUMENT = IllegalArgumentException.class;
    private static final Class<?> STATE = IllegalStateException.class;
    private static final Class<?> UNSUPPORTED = UnsupportedOperationException.class;

    public static void main(String[] args) {
        requestsAreServedAtOnce();
        requestsAreServedBySubstitutesInOrder();
        requestsWaitForWhatIsMissing();
        requestsAreRefused();
        aNewRequestServesNoOtherOne();
        onlyPiecesThatComeInServe();
        stockInReachIsTold();
        whatWouldBeTakenIsTold();
        waitingRequestsAreTold();
        waitingRequestsAreCancelled();
        oneOfTwelveIsCancelled();
        kitsAreTaken();
        kitsOfFourItemsAreTaken();
        kitsAreTakenWithSubstitutes();
        kitsTakeAllOrNothing();
        kitsAreRefused();
        possibleKitsAreCounted();
        whatKitsLackIsTold();
        Check.end("RequestsTest");
    }

    private static Recorded withStocks(int... stocks) {
        Recorded x = new Recorded();
        for (int stock : stocks) {
            x.addPart(stock, 1, 1, 100);
        }
        return x;
    }

    private static void stocks(String what, Recorded x, int... due) {
        for (int part = 0; part < due.length; part++) {
            Check.due("the stock of part " + part + " behind " + what, x.part(part, 0), due[part]);
        }
    }

    private static void requestsAreServedAtOnce() {
        Recorded x = withStocks(10, 5);
        Check.due("request", x.request(0, 4), 4);
        Check.due("request of all the rest", x.request(0, 6), 6);
        stocks("two requests", x, 0, 5);
        Check.due("issued", x.movement(0, 7), 10);
        Check.due("none waits", x.count(2), 0);
        Check.due("requests made", x.count(6), 2);
        Check.due("the greatest quantity", withStocks(999).request(0, 999), 999);
    }

    private static void requestsAreServedBySubstitutesInOrder() {
        Recorded x = withStocks(2, 3, 4, 50);
        x.addSubstitute(0, 2);
        x.addSubstitute(0, 1);
        x.addSubstitute(1, 3);
        Check.due("request", x.request(0, 7), 7);
        stocks("a request served by substitutes", x, 0, 2, 0, 50);
        Check.due("issued of the part", x.movement(0, 7), 2);
        Check.due("issued of the first substitute", x.movement(2, 7), 4);
        Check.due("issued of the second one", x.movement(1, 7), 1);
        Check.due("a request of more", x.request(0, 7), 2);
        stocks("substitutes of substitutes", x, 0, 0, 0, 50);
        Check.due("all at once but 5 of 14", x.serviceBits(0), Float.floatToIntBits(9f / 14f));
    }

    private static void requestsWaitForWhatIsMissing() {
        Recorded x = withStocks(3);
        x.advance(2);
        Check.due("request", x.request(0, 10), 3);
        Check.due("request of nothing that is there", x.request(0, 4), 0);
        Check.due("two wait", x.count(2), 2);
        Check.due("missing", x.count(7), 11);
        Check.due("the position", x.part(0, 7), -11);
        Check.due("the first one is served completely", x.giveBack(0, 8, true), 1);
        Check.due("the other one in part", x.waiting(0, 3), 3);
        Check.due("the number of the other one", x.waiting(0, 0), 1);
        Check.due("issued", x.movement(0, 7), 11);
        Check.due("requested 14, at once 3", x.serviceBits(0), Float.floatToIntBits(3f / 14f));
    }

    private static void requestsAreRefused() {
        Recorded x = withStocks(2, 5);
        Check.refuses(x, "part 2 of 2", INDEX, () -> x.request(2, 0));
        Check.refuses(x, "part -1", INDEX, () -> x.request(-1, 1));
        Check.refuses(x, "quantity 0", ARGUMENT, () -> x.request(0, 0));
        Check.refuses(x, "quantity 1000", ARGUMENT, () -> x.request(0, 1000));
        Check.due("3 of 5 wait", x.request(0, 5), 2);
        for (int i = 0; i < 11; i++) {
            x.request(0, 1);
        }
        Check.due("12 wait", x.count(2), 12);
        Check.refusesButKeeps(x, "a thirteenth one", STATE, () -> x.request(0, 1));
        Check.due("reason", x.reason(0), 1);
        Check.refusesButKeeps(x, "one that would be served in part", STATE, () -> x.request(1, 6));
        Check.refuses(x, "a wrong quantity when 12 wait", ARGUMENT, () -> x.request(0, 0));
        Check.due("one that is served when 12 wait", x.request(1, 5), 5);
        Check.due("its number is used", x.count(6), 13);
    }

    private static void aNewRequestServesNoOtherOne() {
        Recorded x = withStocks(0, 5);
        x.request(0, 3);
        x.addSubstitute(0, 1);
        Check.due("addSubstitute serves none", x.waiting(0, 3), 3);
        Check.due("a new request is served before those that wait", x.request(0, 4), 4);
        Check.due("the old one still waits", x.waiting(0, 3), 3);
        stocks("the new request", x, 0, 1);
    }

    private static void onlyPiecesThatComeInServe() {
        Recorded x = withStocks(0, 5, 0);
        x.request(0, 3);
        x.request(0, 9);
        x.addSubstitute(0, 1);
        x.cancel(1);
        Check.due("cancel serves none", x.waiting(0, 3), 3);
        x.undo();
        Check.due("undo serves none", x.waiting(0, 3), 3);
        x.advance(1);
        Check.due("a day without pieces serves none", x.waiting(0, 3), 3);
        x.giveBack(2, 4, false);
        Check.due("broken pieces serve none", x.waiting(0, 3), 3);
        x.addPart(6, 1, 1, 100);
        Check.due("a first stock serves none", x.waiting(0, 3), 3);
        Check.due("pieces of any part serve all", x.giveBack(2, 1, true), 1);
        Check.due("by what substitutes have", x.waiting(0, 3), 7);
        stocks("that", x, 0, 0, 1);
    }

    private static void stockInReachIsTold() {
        Recorded x = withStocks(2, 3, 4, 50);
        x.addSubstitute(0, 2);
        x.addSubstitute(0, 1);
        x.addSubstitute(1, 3);
        Check.due("available(0)", x.available(0), 9);
        Check.due("available(1)", x.available(1), 53);
        Check.due("available(3)", x.available(3), 50);
        Check.refuses(x, "available(4) of 4", INDEX, () -> x.available(4));
        Check.refuses(x, "available(-1)", INDEX, () -> x.available(-1));
    }

    private static void whatWouldBeTakenIsTold() {
        Recorded x = withStocks(2, 3, 4, 50);
        x.addSubstitute(0, 2);
        x.addSubstitute(0, 1);
        String before = Answers.ofWorld(x.again());
        int[][] due = {{1, 1, 0, 0, 0}, {2, 2, 0, 0, 0}, {5, 2, 0, 3, 0}, {8, 2, 2, 4, 0}, {999, 2, 3, 4, 0}};
        for (int[] row : due) {
            for (int other = 0; other < 4; other++) {
                Check.due("taken(0, " + other + ", " + row[0] + ")", x.taken(0, other, row[0]), row[other + 1]);
            }
        }
        Check.due("taken(1, 0, 5)", x.taken(1, 0, 5), 0);
        Check.same("all answers behind taken", Answers.ofWorld(x.again()), before);
        Check.refuses(x, "taken of part 4 of 4", INDEX, () -> x.taken(4, 0, 0));
        Check.refuses(x, "taken of part -1", INDEX, () -> x.taken(-1, 0, 1));
        Check.refuses(x, "taken from part 4 of 4", INDEX, () -> x.taken(0, 4, 1000));
        Check.refuses(x, "taken from part -1", INDEX, () -> x.taken(0, -1, 1));
        Check.refuses(x, "taken, quantity 0", ARGUMENT, () -> x.taken(0, 0, 0));
        Check.refuses(x, "taken, quantity 1000", ARGUMENT, () -> x.taken(0, 0, 1000));
    }

    private static void waitingRequestsAreTold() {
        Recorded x = new Recorded();
        // an order of what is missing arrives, with this lead, only behind what is asked here
        x.addPart(2, 9, 1, 100);
        x.addPart(0, 9, 1, 100);
        x.request(0, 1);
        x.request(1, 7);
        x.advance(3);
        x.request(0, 999);
        int[][] due = {{1, 1, 7, 7, 0}, {2, 0, 999, 998, 3}};
        for (int index = 0; index < 2; index++) {
            for (int what = 0; what < 5; what++) {
                Check.due("waiting(" + index + ", " + what + ")", x.waiting(index, what), due[index][what]);
            }
        }
        Check.refuses(x, "waiting(2, 5) of 2", INDEX, () -> x.waiting(2, 5));
        Check.refuses(x, "waiting(-1, 0)", INDEX, () -> x.waiting(-1, 0));
        Check.refuses(x, "waiting(12, 0)", INDEX, () -> x.waiting(12, 0));
        Check.refuses(x, "waiting(0, 5)", ARGUMENT, () -> x.waiting(0, 5));
        Check.refuses(x, "waiting(0, -1)", ARGUMENT, () -> x.waiting(0, -1));
    }

    private static void waitingRequestsAreCancelled() {
        Recorded x = withStocks(2, 0);
        x.request(0, 6);
        x.request(1, 5);
        x.request(0, 3);
        Check.due("cancel the one between", x.cancel(1), 5);
        Check.due("two still wait", x.count(2), 2);
        Check.due("the first one", x.waiting(0, 0), 0);
        Check.due("the one behind it", x.waiting(1, 0), 2);
        Check.refuses(x, "cancel(2) of 2", INDEX, () -> x.cancel(2));
        Check.refuses(x, "cancel(-1)", INDEX, () -> x.cancel(-1));
        Check.due("cancel one that is served in part", x.cancel(0), 4);
        Check.due("what was served stays issued", x.movement(0, 7), 2);
        stocks("cancel", x, 0, 0);
        Check.due("the requests that were made stay", x.count(6), 3);
        Check.due("the service stays", x.serviceBits(0), Float.floatToIntBits(2f / 9f));
        Check.due("a new one gets the next number", x.request(0, 1), 0);
        Check.due("behind the others", x.waiting(1, 0), 3);
        x.cancel(0);
        x.cancel(0);
        Check.refuses(x, "cancel when none waits", INDEX, () -> x.cancel(0));
    }

    private static void kitsAreTaken() {
        Recorded x = withStocks(5, 4);
        x.addKit(0, 1, 2);
        x.addKit(0, 0, 3);
        Check.due("take", x.take(0), 0);
        stocks("take", x, 2, 2);
        Check.due("issued of one part", x.movement(0, 7), 3);
        Check.due("issued of the other one", x.movement(1, 7), 2);
        Check.due("a kit is no request", x.count(6), 0);
        Check.same("nor counts for service", Check.outcome(() -> x.service(0)), "ArithmeticException");
    }

    private static void oneOfTwelveIsCancelled() {
        Recorded x = withStocks(0);
        for (int i = 1; i <= 12; i++) {
            x.request(0, i);
        }
        Check.due("cancel the fourth one", x.cancel(3), 4);
        for (int index = 0; index < 11; index++) {
            Check.due("the number of one that stays", x.waiting(index, 0), index < 3 ? index : index + 1);
        }
        Check.due("cancel the last one", x.cancel(10), 12);
        Check.due("ten wait", x.count(2), 10);
    }

    private static void kitsOfFourItemsAreTaken() {
        Recorded x = withStocks(9, 9, 9, 9, 9);
        for (int part = 0; part < 4; part++) {
            x.addKit(0, part, part + 1);
        }
        Check.due("possible", x.possible(0), 2);
        Check.due("lacking", x.lacking(0), -1);
        Check.due("take", x.take(0), 0);
        stocks("take", x, 8, 7, 6, 5, 9);
        x.take(0);
        Check.due("the last item lacks", x.lacking(0), 303);
    }

    private static void kitsAreTakenWithSubstitutes() {
        Recorded x = withStocks(2, 6, 9);
        x.addSubstitute(0, 1);
        x.addSubstitute(1, 2);
        x.addKit(0, 0, 5);
        x.addKit(0, 1, 4);
        // 2 of part 0 and 3 of part 1, then the 3 that are left of part 1 and 1 of part 2
        Check.due("take", x.take(0), 4);
        stocks("take", x, 0, 0, 8);
        Check.due("issued of part 1", x.movement(1, 7), 6);
        Check.due("audit", x.audit(), 0);
    }

    private static void kitsTakeAllOrNothing() {
        Recorded x = withStocks(4, 5, 9);
        x.addSubstitute(0, 1);
        x.addKit(0, 2, 1);
        x.addKit(0, 0, 7);
        x.addKit(0, 1, 3);
        Check.refusesButKeeps(x, "take", UNSUPPORTED, () -> x.take(0));
        stocks("a kit that is refused", x, 4, 5, 9);
        Check.due("the reason", x.reason(0), 3);
        Check.due("the part of the item", x.reason(1), 1);
        Check.due("what is missing", x.reason(2), 1);
        Check.same("undo undoes the item, not the refused kit", Check.outcome(x::undo), "6");
        x.addKit(0, 1, 2);
        Check.due("all that is there", x.take(0), 3);
        stocks("the last pieces", x, 0, 0, 8);
    }

    private static void kitsAreRefused() {
        Recorded x = withStocks(5, 0);
        Check.refuses(x, "take without kits", INDEX, () -> x.take(0));
        x.addKit(0, 0, 1);
        x.addKit(1, 1, 9);
        Check.refuses(x, "take(2) of 2", INDEX, () -> x.take(2));
        Check.refuses(x, "take(-1)", INDEX, () -> x.take(-1));
        Check.refusesButKeeps(x, "take(1)", UNSUPPORTED, () -> x.take(1));
        Check.due("the part", x.reason(1), 1);
        Check.due("all 9 missing", x.reason(2), 9);
        Check.refuses(x, "a kit that does not exist keeps the reason", INDEX, () -> x.take(2));
    }

    private static void possibleKitsAreCounted() {
        Recorded x = withStocks(20, 30, 999);
        x.addSubstitute(0, 1);
        x.addKit(0, 0, 4);
        x.addKit(0, 1, 3);
        // 5 times of part 0's own, and part 1 gives 3 a time, then 7 a time
        Check.due("possible(0)", x.possible(0), 7);
        x.addKit(1, 2, 9);
        Check.due("up to 99", x.possible(1), 99);
        x.addKit(2, 2, 1);
        Check.due("not more than 99", x.possible(2), 99);
        String before = Answers.ofWorld(x.again());
        int times = 0;
        while (Check.outcome(() -> x.take(0)).length() < 3) {
            times++;
        }
        Check.due("so many times it can be taken", times, 7);
        Check.due("then it is not possible", x.possible(0), 0);
        for (int i = 0; i < times; i++) {
            x.undo();
        }
        Check.same("all answers behind undo", Answers.ofWorld(x.again()), before);
        Check.refuses(x, "possible(3) of 3", INDEX, () -> x.possible(3));
        Check.refuses(x, "possible(-1)", INDEX, () -> x.possible(-1));
        Recorded just = withStocks(98);
        just.addKit(0, 0, 1);
        Check.due("98 times", just.possible(0), 98);
    }

    private static void whatKitsLackIsTold() {
        Recorded x = withStocks(9, 1, 1, 0, 0, 0, 0, 0);
        x.addSubstitute(1, 2);
        x.addKit(0, 0, 9);
        x.addKit(0, 1, 1);
        Check.due("a kit that can be taken", x.lacking(0), -1);
        x.addKit(0, 2, 1);
        Check.due("it still can", x.lacking(0), -1);
        x.addKit(0, 7, 9);
        Check.due("nine pieces of part 7", x.lacking(0), 709);
        x.addKit(1, 1, 2);
        x.addKit(1, 2, 3);
        x.addKit(1, 7, 1);
        Check.due("the first item, behind what others took", x.lacking(1), 203);
        x.addKit(2, 0, 9);
        x.addKit(2, 3, 1);
        Check.due("one piece of part 3", x.lacking(2), 301);
        x.addKit(3, 7, 1);
        Check.refusesButKeeps(x, "take", UNSUPPORTED, () -> x.take(3));
        Check.due("the part", x.reason(1), 7);
        Check.due("one piece", x.reason(2), 1);
        Check.refuses(x, "lacking(4) of 4", INDEX, () -> x.lacking(4));
        Check.refuses(x, "lacking(-1)", INDEX, () -> x.lacking(-1));
    }
}
