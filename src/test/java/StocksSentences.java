/** The sentences of the promises 22 to 28: returns, repairs, orders and days. */
final class StocksSentences extends Edges {
    static void hold() {
        holdGiveBackAndSend();
        holdRepairAndOrder();
        holdDays();
    }

    private static void holdGiveBackAndSend() {
        Sentences.under("Promise 22: giveBack");
        Sentences.noCase("Returns pieces of a part.");
        Sentences.hold("- `quantity`: the quantity, 1 to 999", StocksSentences::returnsAtTheirEnds);
        Sentences.hold("- `isGood`: true for good pieces, false for broken ones", StocksSentences::goodAndBroken);
        Sentences.hold("Returns the number of waiting requests that are served completely by that.",
            StocksSentences::servedCompletely);
        Sentences.hold("Throws `IndexOutOfBoundsException` if there is no such part", () -> {
            wantsPart((x, part) -> x.giveBack(part, 1, true));
            wantsPart((x, part) -> x.giveBack(part, 1, false));
        });
        Sentences.hold("Throws `IllegalArgumentException` if quantity is out of range", () -> {
            allowsOnly(1, 999, ARGUMENT, Edges::busy, (x, quantity) -> x.giveBack(1, quantity, true));
            allowsOnly(1, 999, ARGUMENT, Edges::busy, (x, quantity) -> x.giveBack(1, quantity, false));
        });
        Sentences.under("Promise 23: send");
        Sentences.noCase("Sends broken pieces of a part to repair.");
        Sentences.hold("- `quantity`: the quantity, 1 to 999", StocksSentences::sendsAtTheirEnds);
        Sentences.hold("Returns the day on which the repair ends.", StocksSentences::daysOfRepairs);
        Sentences.hold("Throws `IndexOutOfBoundsException` if there is no such part",
            () -> wantsPart((x, part) -> x.send(part, 1)));
        Sentences.hold("Throws `IllegalArgumentException` if quantity is out of range", StocksSentences::sendsOutOfRange);
        Sentences.hold("Throws `UnsupportedOperationException` if there are not so many broken pieces",
            StocksSentences::notSoManyBroken);
        Sentences.hold("Throws `IllegalStateException` if 12 repairs are under way", StocksSentences::thirteenthRepair);
    }

    private static void holdRepairAndOrder() {
        Sentences.under("Promise 24: repair");
        Sentences.noCase("Returns a number of a repair under way.");
        Sentences.hold("- `index`: the index in the order in which the repairs were sent, from 0",
            StocksSentences::indicesOfRepairs);
        Sentences.hold("- `what`: 0 for the part, 1 for the quantity, 2 for the day on which it ends",
            StocksSentences::numbersOfRepairs);
        Sentences.noCase("Returns the number.");
        Sentences.hold("Throws `IndexOutOfBoundsException` if there is no such repair", StocksSentences::noSuchRepair);
        Sentences.hold("Throws `IllegalArgumentException` if what is not 0 to 2",
            () -> allowsOnly(0, 2, ARGUMENT, Edges::busy, (x, what) -> x.repair(0, what)));
        Sentences.under("Promise 25: order");
        Sentences.noCase("Returns a number of an order under way.");
        Sentences.hold("- `index`: the index in the order in which the orders were made, from 0",
            StocksSentences::indicesOfOrders);
        Sentences.hold("- `what`: 0 for the part, 1 for the quantity, 2 for the day on which it arrives",
            StocksSentences::numbersOfOrders);
        Sentences.noCase("Returns the number.");
        Sentences.hold("Throws `IndexOutOfBoundsException` if there is no such order", StocksSentences::noSuchOrder);
        Sentences.hold("Throws `IllegalArgumentException` if what is not 0 to 2",
            () -> allowsOnly(0, 2, ARGUMENT, Edges::busy, (x, what) -> x.order(0, what)));
    }

    private static void holdDays() {
        Sentences.under("Promise 26: advance");
        Sentences.hold("Lets days end, one after the other.", StocksSentences::oneAfterTheOther);
        Sentences.hold("- `days`: the number of days, 1 to 30", StocksSentences::daysAtTheirEnds);
        Sentences.hold("Returns the number of pieces that came into stocks, those that were issued at once included.",
            StocksSentences::piecesThatCame);
        Sentences.hold("Throws `IllegalArgumentException` if days is out of range", () -> {
            allowsOnly(1, 30, ARGUMENT, Edges::busy, SparePlanner::advance);
            allowsOnly(1, 30, ARGUMENT, SparePlanner::new, SparePlanner::advance);
        });
        Sentences.under("Promise 27: wanted");
        Sentences.hold("Returns the quantity that would be ordered of a part if a day ended now and no repair ended and no"
            + " order arrived on it, whatever orders are under way.", StocksSentences::quantityWanted);
        Sentences.hold("Returns the quantity, 0 if it would not be ordered.", StocksSentences::nothingWanted);
        Sentences.hold("Throws `IndexOutOfBoundsException` if there is no such part", () -> wantsPart(SparePlanner::wanted));
        Sentences.under("Promise 28: stockAfter");
        Sentences.hold("Returns the stock that a part would have after some days if no other call changed anything.",
            StocksSentences::laterStocks);
        Sentences.hold("- `days`: the number of days, 0 to 30", StocksSentences::noDayAndThirty);
        Sentences.noCase("Returns the stock.");
        Sentences.hold("Throws `IndexOutOfBoundsException` if there is no such part",
            () -> wantsPart((x, part) -> x.stockAfter(part, 0)));
        Sentences.hold("Throws `IllegalArgumentException` if days is out of range",
            () -> allowsOnly(0, 30, ARGUMENT, Edges::busy, (x, days) -> x.stockAfter(0, days)));
    }

    // ---- promises 22 and 23

    private static void returnsAtTheirEnds() {
        SparePlanner x = stocks(0).get();
        x.giveBack(0, 1, true);
        x.giveBack(0, 999, false);
        stocksAre(x, 1);
        due(x.part(0, 1), 999);
        x.giveBack(0, 999, true);
        x.giveBack(0, 1, false);
        stocksAre(x, 1000);
        due(x.part(0, 1), 1000);
        due(x.movement(0, 2), 1000);
        due(x.movement(0, 3), 1000);
    }

    private static void goodAndBroken() {
        SparePlanner x = waiting(1).get();
        due(x.giveBack(0, 5, false), 0);
        due(x.count(2), 1);
        due(x.part(0, 0), 0);
        due(x.giveBack(0, 5, true), 1);
        due(x.part(0, 0), 4);
        due(x.part(0, 1), 5);
    }

    private static void servedCompletely() {
        due(waiting(12).get().giveBack(0, 12, true), 12);
        due(waiting(12).get().giveBack(0, 11, true), 11);
        due(waiting(12).get().giveBack(0, 999, true), 12);
        due(waiting(0).get().giveBack(0, 999, true), 0);
        due(waiting(12).get().giveBack(1, 999, true), 0);
        due(waiting(12).get().giveBack(0, 999, false), 0);
        Scene big = stocks(0).and(x -> x.request(0, 5)).and(x -> x.request(0, 1));
        due(big.get().giveBack(0, 4, true), 0);
        due(big.get().giveBack(0, 5, true), 1);
        due(big.get().giveBack(0, 6, true), 2);
        due(big.and(x -> x.giveBack(0, 4, true)).get().giveBack(0, 2, true), 2);
    }

    private static void sendsAtTheirEnds() {
        SparePlanner x = stocks(0).get();
        x.giveBack(0, 999, false);
        x.giveBack(0, 1, false);
        due(x.send(0, 999), 1);
        due(x.part(0, 1), 1);
        due(x.send(0, 1), 1);
        due(x.part(0, 1), 0);
        due(x.movement(0, 4), 1000);
    }

    private static void daysOfRepairs() {
        for (int lead : new int[] {1, 9}) {
            SparePlanner x = new SparePlanner();
            x.addPart(0, 1, lead, 100);
            x.giveBack(0, 2, false);
            due(x.send(0, 1), lead);
            x.advance(30);
            due(x.send(0, 1), 30 + lead);
        }
    }

    private static void sendsOutOfRange() {
        Scene scene = stocks(0).and(x -> x.giveBack(0, 999, false)).and(x -> x.giveBack(0, 999, false));
        allowsOnly(1, 999, ARGUMENT, scene, (x, quantity) -> x.send(0, quantity));
        refuses(ARGUMENT, stocks(0), x -> x.send(0, 0));
        refuses(ARGUMENT, repairs(12), x -> x.send(0, -1));
    }

    private static void notSoManyBroken() {
        Scene scene = stocks(9).and(x -> x.giveBack(0, 5, false));
        due(refusesButKeeps(UNSUPPORTED, scene, x -> x.send(0, 6), "reason").reason(0), 2);
        due(refusesButKeeps(UNSUPPORTED, scene, x -> x.send(0, 999), "reason").reason(0), 2);
        due(scene.get().send(0, 5), 1);
        Scene sent = scene.and(x -> x.send(0, 5));
        due(refusesButKeeps(UNSUPPORTED, sent, x -> x.send(0, 1), "reason").reason(0), 2);
        due(refusesButKeeps(UNSUPPORTED, stocks(9), x -> x.send(0, 1), "reason").reason(0), 2);
    }

    private static void thirteenthRepair() {
        due(refusesButKeeps(STATE, repairs(12), x -> x.send(0, 8), "reason").reason(0), 1);
        due(refusesButKeeps(STATE, repairs(12), x -> x.send(1, 7), "reason").reason(0), 1);
        due(refusesButKeeps(UNSUPPORTED, repairs(12), x -> x.send(0, 9), "reason").reason(0), 2);
        due(repairs(11).get().send(0, 9), 9);
        due(repairs(12).and(x -> x.advance(9)).get().send(0, 8), 18);
        due(repairs(12).and(SparePlanner::undo).get().send(0, 9), 9);
    }

    // ---- promises 24 and 25

    private static void indicesOfRepairs() {
        SparePlanner x = new SparePlanner();
        for (int part = 0; part < 8; part++) {
            x.addPart(0, 9, 1 + (part * 3) % 8, 100);
            x.giveBack(part, 9, false);
        }
        for (int i = 0; i < 12; i++) {
            x.send(i % 8, 1 + i / 8);
        }
        for (int index = 0; index < 12; index++) {
            due(x.repair(index, 0), index % 8);
            due(x.repair(index, 1), 1 + index / 8);
        }
        x.advance(3);
        // those with the leads 1, 2 and 3 have ended: of the parts 0, 3 and 6
        int[] left = {1, 2, 4, 5, 7, 1, 2};
        for (int index = 0; index < 7; index++) {
            due(x.repair(index, 0), left[index]);
            due(x.repair(index, 1), index < 5 ? 1 : 2);
        }
        due(x.count(3), 7);
    }

    private static void numbersOfRepairs() {
        SparePlanner x = repairs(0).get();
        x.giveBack(1, 999, false);
        x.advance(2);
        x.send(1, 999);
        x.send(0, 1);
        due(x.repair(0, 0), 1);
        due(x.repair(0, 1), 999);
        due(x.repair(0, 2), 11);
        due(x.repair(1, 0), 0);
        due(x.repair(1, 1), 1);
        due(x.repair(1, 2), 11);
    }

    private static void noSuchRepair() {
        for (int wrong : new int[] {-1, 1, 12, Integer.MIN_VALUE, Integer.MAX_VALUE}) {
            refuses(INDEX, Edges::busy, x -> x.repair(wrong, 0));
        }
        refuses(INDEX, repairs(0), x -> x.repair(0, 0));
        refuses(INDEX, repairs(12), x -> x.repair(12, 0));
        refuses(INDEX, repairs(12).and(x -> x.advance(9)), x -> x.repair(0, 0));
        refuses(INDEX, Edges::busy, x -> x.repair(1, -1));
        due(repairs(1).get().repair(0, 2), 9);
        due(repairs(12).get().repair(11, 1), 1);
    }

    private static void indicesOfOrders() {
        SparePlanner x = orders(12).get();
        for (int index = 0; index < 12; index++) {
            due(x.order(index, 0), index % 8);
            due(x.order(index, 2), index < 8 ? 10 : 11);
        }
        x.advance(8);
        for (int index = 0; index < 4; index++) {
            due(x.order(index, 0), index);
        }
        SparePlanner y = new SparePlanner();
        int[] leads = {5, 1, 3, 1, 4};
        for (int part = 0; part < 5; part++) {
            y.addPart(0, leads[part], 1, 1);
            y.setBounds(part, 1, 1);
        }
        y.advance(2);
        int[] left = {0, 2, 4};
        for (int index = 0; index < 3; index++) {
            due(y.order(index, 0), left[index]);
            due(y.order(index, 2), 1 + leads[left[index]]);
        }
    }

    private static void numbersOfOrders() {
        SparePlanner x = stocks(0, 5).get();
        x.setBounds(1, 999, 999);
        x.setBounds(0, 1, 1);
        x.advance(1);
        int[][] due = {{0, 1, 10}, {1, 994, 10}};
        for (int index = 0; index < 2; index++) {
            for (int what = 0; what < 3; what++) {
                due(x.order(index, what), due[index][what]);
            }
        }
    }

    private static void noSuchOrder() {
        for (int wrong : new int[] {-1, 1, 12, Integer.MIN_VALUE, Integer.MAX_VALUE}) {
            refuses(INDEX, Edges::busy, x -> x.order(wrong, 0));
        }
        refuses(INDEX, repairs(12), x -> x.order(0, 0));
        refuses(INDEX, orders(8), x -> x.order(8, 0));
        refuses(INDEX, orders(12), x -> x.order(12, 0));
        refuses(INDEX, orders(8).and(x -> x.advance(8)), x -> x.order(0, 0));
        refuses(INDEX, Edges::busy, x -> x.order(1, -1));
        due(orders(12).get().order(11, 0), 3);
    }

    // ---- promises 26 to 28

    private static void oneAfterTheOther() {
        Scene[] scenes = {Edges::busy, orders(8), orders(12), repairs(12), waiting(12), SparePlanner::new};
        for (Scene scene : scenes) {
            SparePlanner x = scene.get();
            SparePlanner y = scene.get();
            int pieces = 0;
            for (int day = 0; day < 30; day++) {
                pieces += x.advance(1);
            }
            due(y.advance(30), pieces);
            due(Answers.ofWorld(x), Answers.ofWorld(y));
        }
        due(((Scene) Edges::busy).and(x -> x.advance(30)).get().undo(), 7);
        due(((Scene) Edges::busy).and(x -> x.advance(30)).and(SparePlanner::undo).get().count(5), 1);
    }

    private static void daysAtTheirEnds() {
        SparePlanner x = stocks(1).get();
        x.advance(1);
        due(x.count(5), 1);
        x.advance(30);
        due(x.count(5), 31);
        refuses(ARGUMENT, stocks(1), y -> y.advance(0));
        refuses(ARGUMENT, stocks(1), y -> y.advance(31));
    }

    private static void piecesThatCame() {
        SparePlanner x = new SparePlanner();
        due(x.advance(30), 0);
        x.addPart(0, 1, 2, 50);
        x.request(0, 4);
        x.giveBack(0, 5, false);
        x.send(0, 5);
        // the position is 2 - 4 on day 31, so 2 are ordered; 2 are repaired on day 32, before these arrive
        due(x.advance(1), 0);
        due(x.advance(1), 4);
        stocksAre(x, 0);
        due(x.count(2), 0);
        due(x.movement(0, 7), 4);
        due(x.advance(30), 0);
    }

    private static void quantityWanted() {
        SparePlanner x = busy();
        due(x.wanted(1), 2);
        x.request(1, 999);
        due(x.wanted(1), 1001);
        x.setBounds(1, 0, 999);
        due(x.wanted(1), 2000);
        x.setBounds(2, 10, 10);
        due(x.wanted(2), 1);
        // on day 2 neither the repair ends nor the order arrives, so this is what is ordered
        x.advance(1);
        due(x.order(1, 1), 2000);
        due(x.order(2, 1), 1);
        due(x.wanted(1), 0);
        due(orders(12).and(y -> y.setBounds(0, 9, 9)).get().wanted(0), 7);
    }

    private static void nothingWanted() {
        due(stocks(0).get().wanted(0), 0);
        due(stocks(5).and(x -> x.setBounds(0, 5, 9)).get().wanted(0), 0);
        due(stocks(5).and(x -> x.setBounds(0, 6, 9)).get().wanted(0), 4);
        due(stocks(5).and(x -> x.setBounds(0, 6, 6)).get().wanted(0), 1);
        due(stocks(5).and(x -> x.setBounds(0, 0, 999)).get().wanted(0), 0);
        due(stocks(0).and(x -> x.setBounds(0, 999, 999)).get().wanted(0), 999);
        due(stocks(5).and(x -> x.request(0, 6)).get().wanted(0), 1);
        due(stocks(5).and(x -> x.request(0, 5)).get().wanted(0), 0);
    }

    private static void laterStocks() {
        SparePlanner x = new SparePlanner();
        x.addPart(2, 2, 4, 50);
        x.setBounds(0, 3, 5);
        x.giveBack(0, 3, false);
        x.send(0, 3);
        x.addPart(0, 9, 9, 1);
        x.addSubstitute(1, 0);
        x.request(0, 1);
        // 1 is there and 1 in repair, so 3 are ordered on day 1, which arrive on day 3; 1 is repaired on day 4
        int[] due = {1, 1, 1, 4, 5, 5};
        for (int days = 0; days < 6; days++) {
            due(x.stockAfter(0, days), due[days]);
            due(x.stockAfter(1, days), 0);
        }
        due(x.count(5), 0);
        // request 1 waits for part 1, whose substitute gets pieces on day 3
        x.request(1, 4);
        due(x.stockAfter(0, 0), 0);
        due(x.stockAfter(0, 3), 1);
    }

    private static void noDayAndThirty() {
        due(busy().stockAfter(0, 0), 5);
        due(busy().stockAfter(2, 0), 9);
        due(couldBeServed().get().stockAfter(1, 0), 5);
        SparePlanner x = new SparePlanner();
        x.addPart(0, 9, 9, 100);
        x.giveBack(0, 1, false);
        x.advance(30);
        x.send(0, 1);
        due(x.stockAfter(0, 8), 0);
        due(x.stockAfter(0, 9), 1);
        due(x.stockAfter(0, 30), 1);
        due(x.count(5), 30);
    }

    /** A request waits that could be served now by the substitute of its part. */
    private static Scene couldBeServed() {
        return stocks(0, 5).and(x -> x.request(0, 3)).and(x -> x.addSubstitute(0, 1));
    }
}
