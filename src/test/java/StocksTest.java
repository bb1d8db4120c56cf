/** Promises 22 to 28: returns, repairs, orders, and days that end. */
final class StocksTest {
    private static final Class<?> INDEX = IndexOutOfBoundsException.class;
    private static final Class<?> ARGUMENT = IllegalArgumentException.class;
    private static final Class<?> STATE = IllegalStateException.class;
    private static final Class<?> UNSUPPORTED = UnsupportedOperationException.class;

    public static void main(String[] args) {
        goodPiecesComeBack();
        brokenPiecesComeBack();
        waitingRequestsAreServedInTheirOrder();
        returnsAreRefused();
        brokenPiecesAreSent();
        sendingIsRefused();
        repairsAreTold();
        repairsEnd();
        repairsLeaveHundredths();
        repairsUseTheYieldOfTheirEnd();
        repairsWithoutPiecesServeNone();
        ordersAreMade();
        ordersArriveInTheirOrder();
        ordersAreTold();
        ordersCanBeGreaterThanTheUpperBound();
        twelveOrdersAreEnough();
        repairsEndBeforeOrdersArrive();
        positionsAreRoundedForEachRepair();
        daysAreRefused();
        piecesOfAllDaysAreTold();
        whatIsWantedIsTold();
        wantedDoesNotLookAtOrders();
        stocksOfLaterDaysAreTold();
        Check.end("StocksTest");
    }

    private static Recorded withStocks(int... stocks) {
        Recorded x = new Recorded();
        for (int stock : stocks) {
            x.addPart(stock, 1, 1, 100);
        }
        return x;
    }

    private static void goodPiecesComeBack() {
        Recorded x = withStocks(3, 3);
        Check.due("giveBack", x.giveBack(0, 4, true), 0);
        Check.due("the stock", x.part(0, 0), 7);
        Check.due("returned good", x.movement(0, 2), 4);
        Check.due("returned broken", x.movement(0, 3), 0);
        Check.due("the stock of another part", x.part(1, 0), 3);
        x.giveBack(0, 999, true);
        Check.due("the greatest quantity", x.part(0, 0), 1006);
    }

    private static void brokenPiecesComeBack() {
        Recorded x = withStocks(0);
        x.request(0, 2);
        Check.due("giveBack", x.giveBack(0, 4, false), 0);
        Check.due("broken pieces", x.part(0, 1), 4);
        Check.due("the stock", x.part(0, 0), 0);
        Check.due("returned broken", x.movement(0, 3), 4);
        Check.due("returned good", x.movement(0, 2), 0);
        Check.due("the request waits", x.waiting(0, 3), 2);
        x.giveBack(0, 999, false);
        Check.due("more broken pieces", x.part(0, 1), 1003);
    }

    private static void waitingRequestsAreServedInTheirOrder() {
        Recorded x = withStocks(0, 0, 0);
        x.addSubstitute(1, 0);
        x.request(0, 5);
        x.request(1, 4);
        x.request(2, 1);
        x.request(0, 2);
        Check.due("one is served completely", x.giveBack(0, 7, true), 1);
        Check.due("the next one in part", x.waiting(0, 3), 2);
        Check.due("that of another part waits", x.waiting(1, 3), 1);
        Check.due("the last one waits", x.waiting(2, 3), 2);
        Check.due("the other two of these", x.giveBack(0, 10, true), 2);
        Check.due("one still waits", x.waiting(0, 1), 2);
        Check.due("the stock", x.part(0, 0), 6);
        Check.due("its own part serves it", x.giveBack(2, 1, true), 1);
        Check.due("none waits", x.count(2), 0);
        Check.due("issued by the substitute", x.movement(0, 7), 11);
        Check.due("none was served at once", x.serviceBits(1), 0);
    }

    private static void returnsAreRefused() {
        Recorded x = withStocks(3);
        for (boolean isGood : new boolean[] {true, false}) {
            Check.refuses(x, "part 1 of 1", INDEX, () -> x.giveBack(1, 0, isGood));
            Check.refuses(x, "part -1", INDEX, () -> x.giveBack(-1, 1, isGood));
            Check.refuses(x, "quantity 0", ARGUMENT, () -> x.giveBack(0, 0, isGood));
            Check.refuses(x, "quantity 1000", ARGUMENT, () -> x.giveBack(0, 1000, isGood));
        }
    }

    private static void brokenPiecesAreSent() {
        Recorded x = new Recorded();
        x.addPart(0, 1, 4, 100);
        x.giveBack(0, 10, false);
        Check.due("send", x.send(0, 3), 4);
        x.advance(2);
        Check.due("send on day 2", x.send(0, 7), 6);
        Check.due("broken pieces", x.part(0, 1), 0);
        Check.due("sent", x.movement(0, 4), 10);
        Check.due("repairs under way", x.count(3), 2);
        Check.due("returned broken", x.movement(0, 3), 10);
    }

    private static void sendingIsRefused() {
        Recorded x = withStocks(3, 3);
        x.giveBack(0, 13, false);
        Check.refuses(x, "part 2 of 2", INDEX, () -> x.send(2, 0));
        Check.refuses(x, "part -1", INDEX, () -> x.send(-1, 1));
        Check.refuses(x, "quantity 0", ARGUMENT, () -> x.send(0, 0));
        Check.refuses(x, "quantity 1000", ARGUMENT, () -> x.send(1, 1000));
        Check.refusesButKeeps(x, "14 of 13", UNSUPPORTED, () -> x.send(0, 14));
        Check.due("the reason", x.reason(0), 2);
        for (int i = 0; i < 12; i++) {
            x.send(0, 1);
        }
        Check.refusesButKeeps(x, "a thirteenth repair", STATE, () -> x.send(0, 1));
        Check.due("the reason", x.reason(0), 1);
        Check.refusesButKeeps(x, "a thirteenth one of too many pieces", UNSUPPORTED, () -> x.send(0, 2));
        Check.due("the reason that is told first", x.reason(0), 2);
    }

    private static void repairsAreTold() {
        Recorded x = new Recorded();
        x.addPart(0, 1, 5, 100);
        x.addPart(0, 1, 1, 100);
        x.addPart(0, 1, 3, 100);
        for (int part = 0; part < 3; part++) {
            x.giveBack(part, 9, false);
        }
        x.send(0, 2);
        x.send(1, 3);
        x.send(2, 4);
        int[][] due = {{0, 2, 5}, {1, 3, 1}, {2, 4, 3}};
        repairs(x, due);
        x.advance(1);
        repairs(x, new int[][] {{0, 2, 5}, {2, 4, 3}});
        Check.refuses(x, "repair(2, 3) of 2", INDEX, () -> x.repair(2, 3));
        Check.refuses(x, "repair(-1, 0)", INDEX, () -> x.repair(-1, 0));
        Check.refuses(x, "repair(12, 0)", INDEX, () -> x.repair(12, 0));
        Check.refuses(x, "repair(0, 3)", ARGUMENT, () -> x.repair(0, 3));
        Check.refuses(x, "repair(0, -1)", ARGUMENT, () -> x.repair(0, -1));
        x.send(1, 1);
        repairs(x, new int[][] {{0, 2, 5}, {2, 4, 3}, {1, 1, 2}});
        x.advance(4);
        Check.refuses(x, "repair when none is under way", INDEX, () -> x.repair(0, 0));
    }

    private static void repairs(Recorded x, int[][] due) {
        Check.due("repairs under way", x.count(3), due.length);
        for (int index = 0; index < due.length; index++) {
            for (int what = 0; what < 3; what++) {
                Check.due("repair(" + index + ", " + what + ")", x.repair(index, what), due[index][what]);
            }
        }
    }

    private static void orders(Recorded x, int[][] due) {
        Check.due("orders under way", x.count(4), due.length);
        for (int index = 0; index < due.length; index++) {
            for (int what = 0; what < 3; what++) {
                Check.due("order(" + index + ", " + what + ")", x.order(index, what), due[index][what]);
            }
        }
    }

    private static void repairsEnd() {
        Recorded x = new Recorded();
        x.addPart(0, 1, 2, 100);
        x.giveBack(0, 5, false);
        x.request(0, 3);
        x.send(0, 5);
        Check.due("the first day", x.advance(1), 0);
        Check.due("the stock on it", x.part(0, 0), 0);
        Check.due("the second day", x.advance(1), 5);
        Check.due("the request was served", x.count(2), 0);
        Check.due("the stock", x.part(0, 0), 2);
        Check.due("repaired", x.movement(0, 5), 5);
        Check.due("scrapped", x.movement(0, 6), 0);
        Check.due("no repair is under way", x.count(3), 0);
    }

    private static void repairsLeaveHundredths() {
        Recorded x = new Recorded();
        x.addPart(0, 1, 1, 30);
        x.giveBack(0, 30, false);
        int[] quantities = {3, 3, 1, 10, 1};
        int[] repaired = {0, 1, 1, 3, 0};
        int[] hundredths = {90, 80, 10, 10, 40};
        for (int i = 0; i < quantities.length; i++) {
            x.send(0, quantities[i]);
            Check.due("repaired of repair " + i, x.advance(1), repaired[i]);
            Check.due("the sum of hundredths behind it", x.part(0, 8), hundredths[i]);
        }
        Check.due("repaired", x.movement(0, 5), 5);
        Check.due("scrapped", x.movement(0, 6), 13);
        x.setYield(0, 100);
        x.send(0, 2);
        Check.due("all of them", x.advance(1), 2);
        Check.due("the sum stays", x.part(0, 8), 40);
        x.setYield(0, 0);
        x.send(0, 2);
        Check.due("none of them", x.advance(1), 0);
        Check.due("the sum stays", x.part(0, 8), 40);
        Check.due("audit", x.audit(), 0);
        Recorded y = new Recorded();
        y.addPart(0, 1, 1, 99);
        y.giveBack(0, 2, false);
        y.send(0, 1);
        Check.due("99 hundredths are no piece", y.advance(1), 0);
        y.send(0, 1);
        Check.due("198 are one piece", y.advance(1), 1);
        Check.due("98 are left", y.part(0, 8), 98);
    }

    private static void repairsUseTheYieldOfTheirEnd() {
        Recorded x = new Recorded();
        x.addPart(0, 1, 2, 100);
        x.giveBack(0, 10, false);
        x.send(0, 10);
        x.advance(1);
        x.setYield(0, 50);
        Check.due("half of them", x.advance(1), 5);
    }

    private static void repairsWithoutPiecesServeNone() {
        Recorded x = new Recorded();
        x.addPart(0, 9, 1, 50);
        x.addPart(4, 9, 1, 100);
        x.request(0, 3);
        x.addSubstitute(0, 1);
        x.giveBack(0, 2, false);
        x.send(0, 1);
        Check.due("no piece comes", x.advance(1), 0);
        Check.due("so the request waits", x.waiting(0, 3), 3);
        x.send(0, 1);
        Check.due("a piece comes", x.advance(1), 1);
        Check.due("so the request is served", x.count(2), 0);
        Check.due("by the substitute, too", x.part(1, 0), 2);
    }

    private static void ordersAreMade() {
        Recorded x = new Recorded();
        x.addPart(4, 3, 1, 100);
        x.addPart(4, 2, 1, 100);
        x.setBounds(0, 4, 9);
        x.setBounds(1, 5, 5);
        x.advance(1);
        orders(x, new int[][] {{1, 1, 3}});
        x.request(0, 1);
        x.advance(1);
        orders(x, new int[][] {{1, 1, 3}, {0, 6, 5}});
        Check.due("the position of part 0", x.part(0, 7), 9);
        Check.due("the third day", x.advance(1), 1);
        orders(x, new int[][] {{0, 6, 5}});
        Check.due("received", x.movement(1, 1), 1);
        Check.due("the fifth day", x.advance(2), 6);
        orders(x, new int[0][]);
        Check.due("the stock", x.part(0, 0), 9);
        Check.due("received", x.movement(0, 1), 6);
    }

    private static void ordersArriveInTheirOrder() {
        Recorded x = new Recorded();
        x.addPart(0, 1, 1, 100);
        x.addPart(0, 1, 1, 100);
        x.addSubstitute(0, 1);
        x.addSubstitute(1, 0);
        x.setBounds(0, 1, 2);
        x.setBounds(1, 1, 2);
        x.advance(1);
        orders(x, new int[][] {{0, 2, 2}, {1, 2, 2}});
        x.request(1, 3);
        Check.due("both arrive", x.advance(1), 4);
        // the two of part 0 come first and are issued, then one of part 1
        Check.due("issued of part 0", x.movement(0, 7), 2);
        Check.due("issued of part 1", x.movement(1, 7), 1);
    }

    private static void ordersAreTold() {
        Recorded x = withStocks(0);
        x.setBounds(0, 1, 999);
        x.advance(1);
        orders(x, new int[][] {{0, 999, 2}});
        Check.refuses(x, "order(1, 3) of 1", INDEX, () -> x.order(1, 3));
        Check.refuses(x, "order(-1, 0)", INDEX, () -> x.order(-1, 0));
        Check.refuses(x, "order(12, 0)", INDEX, () -> x.order(12, 0));
        Check.refuses(x, "order(0, 3)", ARGUMENT, () -> x.order(0, 3));
        Check.refuses(x, "order(0, -1)", ARGUMENT, () -> x.order(0, -1));
    }

    private static void ordersCanBeGreaterThanTheUpperBound() {
        Recorded x = withStocks(0);
        x.request(0, 50);
        x.advance(1);
        orders(x, new int[][] {{0, 50, 2}});
        Check.due("the position", x.part(0, 7), 0);
        x.setBounds(0, 0, 7);
        x.request(0, 999);
        x.advance(1);
        orders(x, new int[][] {{0, 1006, 3}});
        Check.due("those that were issued at once count, too", x.advance(1), 1006);
        Check.due("the stock", x.part(0, 0), 7);
    }

    private static void twelveOrdersAreEnough() {
        Recorded x = new Recorded();
        for (int part = 0; part < 8; part++) {
            x.addPart(0, 9, 1, 100);
            x.setBounds(part, 1, 1);
        }
        x.advance(1);
        for (int part = 0; part < 8; part++) {
            x.request(part, 1);
        }
        x.advance(1);
        Check.due("orders under way", x.count(4), 12);
        Check.due("the last one is of part 3", x.order(11, 0), 3);
        Check.due("the position of part 4", x.part(4, 7), 0);
        x.advance(7);
        Check.due("still 12", x.count(4), 12);
        Check.due("eight arrive on day 10", x.advance(1), 8);
        Check.due("four are ordered", x.count(4), 8);
        Check.due("the first of these", x.order(4, 0), 4);
        Check.due("its day", x.order(4, 2), 19);
    }

    private static void repairsEndBeforeOrdersArrive() {
        Recorded x = withStocks(0, 0);
        x.addSubstitute(1, 0);
        x.addSubstitute(0, 1);
        x.setBounds(0, 1, 1);
        x.advance(1);
        x.giveBack(1, 1, false);
        x.send(1, 1);
        x.request(0, 1);
        Check.due("a repair and an order", x.advance(1), 2);
        Check.due("the repaired one is issued", x.movement(1, 7), 1);
        Check.due("the ordered one is not", x.movement(0, 7), 0);
    }

    private static void positionsAreRoundedForEachRepair() {
        Recorded x = new Recorded();
        x.addPart(0, 1, 5, 50);
        x.giveBack(0, 9, false);
        x.send(0, 3);
        x.send(0, 3);
        x.send(0, 1);
        Check.due("the position", x.part(0, 7), 2);
        x.setYield(0, 99);
        Check.due("the position with another yield", x.part(0, 7), 4);
        x.setYield(0, 100);
        Check.due("the position with all pieces", x.part(0, 7), 7);
        x.setYield(0, 0);
        Check.due("the position with none", x.part(0, 7), 0);
        Check.due("broken pieces do not count", x.part(0, 1), 2);
    }

    private static void daysAreRefused() {
        Recorded x = withStocks(1);
        Check.refuses(x, "no day", ARGUMENT, () -> x.advance(0));
        Check.refuses(x, "-1 days", ARGUMENT, () -> x.advance(-1));
        Check.refuses(x, "31 days", ARGUMENT, () -> x.advance(31));
        Check.due("30 days", x.advance(30), 0);
        Check.due("the day", x.count(5), 30);
    }

    private static void piecesOfAllDaysAreTold() {
        Recorded x = new Recorded();
        x.addPart(0, 1, 3, 50);
        x.setBounds(0, 4, 4);
        x.giveBack(0, 9, false);
        x.send(0, 9);
        x.request(0, 6);
        // day 1 orders 4 - (0 + 4 - 6) = 6, which arrive on day 2; on day 3 come 4 repaired ones
        Check.due("ten pieces", x.advance(5), 10);
        Check.due("four are left", x.part(0, 0), 4);
    }

    private static void whatIsWantedIsTold() {
        Recorded x = new Recorded();
        x.addPart(4, 2, 3, 50);
        Check.due("nothing at first", x.wanted(0), 0);
        x.setBounds(0, 4, 9);
        Check.due("nothing at the lower bound", x.wanted(0), 0);
        x.setBounds(0, 5, 9);
        Check.due("up to the upper bound", x.wanted(0), 5);
        x.giveBack(0, 3, false);
        x.send(0, 3);
        Check.due("a repair is counted", x.wanted(0), 0);
        x.request(0, 10);
        Check.due("missing pieces, too", x.wanted(0), 14);
        x.advance(1);
        Check.due("so many are ordered", x.order(0, 1), 14);
        Check.due("an order is counted", x.wanted(0), 0);
        Check.refuses(x, "wanted(1) of 1", INDEX, () -> x.wanted(1));
        Check.refuses(x, "wanted(-1)", INDEX, () -> x.wanted(-1));
    }

    private static void wantedDoesNotLookAtOrders() {
        Recorded x = new Recorded();
        x.addPart(20, 9, 1, 100);
        x.addPart(0, 9, 1, 100);
        x.addPart(5, 9, 1, 100);
        for (int i = 0; i < 12; i++) {
            x.setBounds(1, i + 1, i + 1);
            x.setBounds(2, i + 6, i + 6);
            if (x.count(4) < 12) {
                x.advance(1);
            }
        }
        Check.due("12 orders are under way", x.count(4), 12);
        x.setBounds(0, 30, 40);
        Check.due("wanted", x.wanted(0), 20);
        x.advance(1);
        Check.due("and not ordered", x.part(0, 7), 20);
    }

    private static void stocksOfLaterDaysAreTold() {
        Recorded x = new Recorded();
        x.addPart(1, 2, 3, 50);
        x.addPart(0, 4, 1, 70);
        x.addSubstitute(1, 0);
        x.setBounds(0, 3, 8);
        x.setBounds(1, 2, 2);
        x.giveBack(0, 5, false);
        x.send(0, 5);
        x.request(1, 4);
        String before = Answers.ofWorld(x.again());
        for (int days = 0; days <= 30; days++) {
            for (int part = 0; part < 2; part++) {
                int told = x.stockAfter(part, days);
                if (days > 0) {
                    x.advance(days);
                }
                Check.due("stockAfter(" + part + ", " + days + ")", told, x.part(part, 0));
                if (days > 0) {
                    x.undo();
                }
            }
        }
        Check.same("all answers behind it", Answers.ofWorld(x.again()), before);
        Check.due("the stock now", x.stockAfter(0, 0), 0);
        Check.due("after the orders", x.stockAfter(0, 10), 5);
        Check.refuses(x, "part 2 of 2", INDEX, () -> x.stockAfter(2, -1));
        Check.refuses(x, "part -1", INDEX, () -> x.stockAfter(-1, 0));
        Check.refuses(x, "-1 days", ARGUMENT, () -> x.stockAfter(0, -1));
        Check.refuses(x, "31 days", ARGUMENT, () -> x.stockAfter(0, 31));
    }
}
