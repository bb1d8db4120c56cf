/** The sentences of the promises 14 to 21: requests and kits. */
final class RequestsSentences extends Edges {
    static void hold() {
        holdRequest();
        holdAvailableAndTaken();
        holdWaitingAndCancel();
        holdKits();
    }

    private static void holdRequest() {
        Sentences.under("Promise 14: request");
        Sentences.noCase("Makes a request.");
        Sentences.hold("- `quantity`: the quantity, 1 to 999", RequestsSentences::quantitiesAtTheirEnds);
        Sentences.hold("Returns the quantity that is served at once.", RequestsSentences::servedAtOnce);
        Sentences.hold("Throws `IndexOutOfBoundsException` if there is no such part",
            () -> wantsPart((x, part) -> x.request(part, 1)));
        Sentences.hold("Throws `IllegalArgumentException` if quantity is out of range", () -> {
            allowsOnly(1, 999, ARGUMENT, Edges::busy, (x, quantity) -> x.request(0, quantity));
            refuses(ARGUMENT, waiting(12), x -> x.request(0, 0));
        });
        Sentences.hold("Throws `IllegalStateException` if pieces would be missing, and 12 requests wait",
            RequestsSentences::noPlaceToWait);
    }

    private static void holdAvailableAndTaken() {
        Sentences.under("Promise 15: available");
        Sentences.noCase("Returns how many pieces of a part could be served now.");
        Sentences.hold("Returns the sum of the stocks of the part and of its substitutes.", RequestsSentences::stocksInReach);
        Sentences.hold("Throws `IndexOutOfBoundsException` if there is no such part",
            () -> wantsPart(SparePlanner::available));
        Sentences.under("Promise 16: taken");
        Sentences.hold("Returns how many pieces would be taken from the stock of another part if a quantity were served"
            + " now.", RequestsSentences::piecesTaken);
        Sentences.hold("- `other`: the number of the other part, possibly the same", RequestsSentences::takenFromItself);
        Sentences.hold("- `quantity`: the quantity, 1 to 999", RequestsSentences::takenAtTheEnds);
        Sentences.noCase("Returns the number of pieces.");
        Sentences.hold("Throws `IndexOutOfBoundsException` if one of the parts does not exist", () -> {
            wantsPart((x, part) -> x.taken(part, 0, 1));
            wantsPart((x, other) -> x.taken(0, other, 1));
        });
        Sentences.hold("Throws `IllegalArgumentException` if quantity is out of range",
            () -> allowsOnly(1, 999, ARGUMENT, Edges::busy, (x, quantity) -> x.taken(0, 2, quantity)));
    }

    private static void holdWaitingAndCancel() {
        Sentences.under("Promise 17: waiting");
        Sentences.noCase("Returns a number of a waiting request.");
        Sentences.hold("- `index`: the index in the order of the waiting requests, from 0",
            RequestsSentences::indicesOfWaiting);
        Sentences.hold("- `what`: 0 for its number, 1 for its part, 2 for its quantity, 3 for the missing quantity, 4 for"
            + " the day on which it was made", RequestsSentences::numbersOfWaiting);
        Sentences.noCase("Returns the number.");
        Sentences.hold("Throws `IndexOutOfBoundsException` if there is no such request", () -> {
            wantsWaiting((x, index) -> x.waiting(index, 4));
        });
        Sentences.hold("Throws `IllegalArgumentException` if what is not 0 to 4",
            () -> allowsOnly(0, 4, ARGUMENT, Edges::busy, (x, what) -> x.waiting(1, what)));
        Sentences.under("Promise 18: cancel");
        Sentences.hold("Cancels a waiting request; what was served stays issued.", RequestsSentences::servedStaysIssued);
        Sentences.hold("- `index`: the index in the order of the waiting requests, from 0",
            RequestsSentences::cancelledAtEachIndex);
        Sentences.hold("Returns the missing quantity.", RequestsSentences::cancelledMissing);
        Sentences.hold("Throws `IndexOutOfBoundsException` if there is no such request",
            () -> wantsWaiting(SparePlanner::cancel));
    }

    private static void holdKits() {
        Sentences.under("Promise 19: take");
        Sentences.noCase("Takes a kit.");
        Sentences.hold("Returns the number of pieces of substitutes that are taken.", RequestsSentences::piecesOfSubstitutes);
        Sentences.hold("Throws `IndexOutOfBoundsException` if there is no such kit", () -> wantsKit(SparePlanner::take));
        Sentences.hold("Throws `UnsupportedOperationException` if an item cannot be served",
            RequestsSentences::itemsThatCannotBeServed);
        Sentences.under("Promise 20: possible");
        Sentences.hold("Returns how many times a kit could be taken, one after the other, if nothing else happened, up to"
            + " 99.", RequestsSentences::upToNinetyNine);
        Sentences.noCase("Returns the number of times.");
        Sentences.hold("Throws `IndexOutOfBoundsException` if there is no such kit", () -> wantsKit(SparePlanner::possible));
        Sentences.under("Promise 21: lacking");
        Sentences.noCase("Returns what is missing to take a kit.");
        Sentences.hold("Returns 100 times the part of the first item that cannot be served plus the missing pieces, but at"
            + " most 99 pieces; -1 if the kit could be taken.", RequestsSentences::whatIsLacking);
        Sentences.hold("Throws `IndexOutOfBoundsException` if there is no such kit", () -> wantsKit(SparePlanner::lacking));
    }

    // ---- promise 14

    private static void quantitiesAtTheirEnds() {
        SparePlanner x = stocks(999, 0).get();
        due(x.request(0, 999), 999);
        due(x.request(0, 1), 0);
        due(x.request(1, 999), 0);
        due(x.waiting(0, 2), 1);
        due(x.waiting(1, 2), 999);
    }

    private static void servedAtOnce() {
        for (int stock = 0; stock <= 4; stock++) {
            due(stocks(stock).get().request(0, 3), Math.min(stock, 3));
            due(stocks(0, stock).and(x -> x.addSubstitute(0, 1)).get().request(0, 3), Math.min(stock, 3));
        }
        // it waits behind another one, but is served before it
        due(stocks(0, 9).and(x -> x.request(0, 5)).and(x -> x.addSubstitute(0, 1)).get().request(0, 8), 8);
    }

    private static void noPlaceToWait() {
        SparePlanner x = refusesButKeeps(STATE, waiting(12), y -> y.request(0, 1), "reason");
        due(x.reason(0), 1);
        due(x.count(6), 12);
        refusesButKeeps(STATE, waiting(12), y -> y.request(1, 6), "reason");
        refusesButKeeps(STATE, waiting(12), y -> y.request(1, 999), "reason");
        due(waiting(12).get().request(1, 5), 5);
        due(waiting(12).and(y -> y.addSubstitute(0, 1)).get().request(0, 5), 5);
        refusesButKeeps(STATE, waiting(12).and(y -> y.addSubstitute(0, 1)), y -> y.request(0, 6), "reason");
        due(waiting(11).get().request(0, 999), 0);
        due(waiting(12).and(y -> y.cancel(11)).get().request(0, 1), 0);
        due(waiting(12).and(y -> y.giveBack(0, 1, true)).get().request(0, 1), 0);
        due(waiting(12).and(SparePlanner::undo).get().request(0, 1), 0);
    }

    // ---- promises 15 and 16

    private static void stocksInReach() {
        due(stocks(0).get().available(0), 0);
        due(stocks(999).get().available(0), 999);
        due(fourSubstitutes().get().available(0), 15);
        due(fourSubstitutes().get().available(1), 2);
        due(fourSubstitutes().and(x -> x.removeSubstitute(0, 4)).get().available(0), 10);
        due(fourSubstitutes().and(x -> x.request(0, 15)).get().available(0), 0);
        due(fourSubstitutes().and(x -> x.giveBack(0, 9, false)).get().available(0), 15);
        // those who wait take nothing from what there is
        due(stocks(0, 5).and(x -> x.request(0, 3)).and(x -> x.addSubstitute(0, 1)).get().available(0), 5);
    }

    private static void piecesTaken() {
        int[][] due = {{1, 1, 0, 0}, {2, 2, 0, 0}, {3, 2, 0, 1}, {5, 2, 0, 3}, {6, 2, 1, 3}, {9, 2, 4, 3}, {10, 2, 4, 3}};
        SparePlanner x = stocks(2, 4, 3, 7).get();
        x.addSubstitute(0, 2);
        x.addSubstitute(0, 1);
        x.addSubstitute(1, 3);
        for (int[] row : due) {
            for (int other = 0; other < 3; other++) {
                due(x.taken(0, other, row[0]), row[other + 1]);
            }
            due(x.taken(0, 3, row[0]), 0);
        }
        stocksAre(x, 2, 4, 3, 7);
    }

    private static void takenFromItself() {
        due(stocks(5).get().taken(0, 0, 4), 4);
        due(stocks(5).get().taken(0, 0, 5), 5);
        due(stocks(5).get().taken(0, 0, 6), 5);
        due(stocks(0, 5).get().taken(0, 0, 1), 0);
        due(stocks(0, 5).get().taken(0, 1, 1), 0);
        // the part of another one's list takes nothing from that one
        due(stocks(0, 5).and(x -> x.addSubstitute(1, 0)).get().taken(0, 1, 1), 0);
    }

    private static void takenAtTheEnds() {
        SparePlanner x = stocks(998, 2).and(y -> y.addSubstitute(0, 1)).get();
        due(x.taken(0, 0, 1), 1);
        due(x.taken(0, 1, 1), 0);
        due(x.taken(0, 0, 999), 998);
        due(x.taken(0, 1, 999), 1);
    }

    // ---- promises 17 and 18

    /** Busy planners have two waiting requests; others have none, one or twelve. */
    private static void wantsWaiting(NumberedDeed deed) {
        for (int wrong : new int[] {-1, 2, 12, Integer.MIN_VALUE, Integer.MAX_VALUE}) {
            refuses(INDEX, Edges::busy, x -> deed.on(x, wrong));
        }
        refuses(INDEX, SparePlanner::new, x -> deed.on(x, 0));
        refuses(INDEX, waiting(0), x -> deed.on(x, 0));
        refuses(INDEX, waiting(1), x -> deed.on(x, 1));
        refuses(INDEX, waiting(12), x -> deed.on(x, 12));
        refuses(INDEX, waiting(12).and(x -> x.cancel(0)), x -> deed.on(x, 11));
        refuses(INDEX, waiting(2).and(x -> x.giveBack(0, 1, true)), x -> deed.on(x, 1));
        answers(waiting(1), x -> deed.on(x, 0));
        answers(waiting(12), x -> deed.on(x, 11));
    }

    private static void indicesOfWaiting() {
        SparePlanner x = waiting(12).get();
        for (int index = 0; index < 12; index++) {
            due(x.waiting(index, 0), index);
        }
        x.cancel(5);
        for (int index = 0; index < 11; index++) {
            due(x.waiting(index, 0), index < 5 ? index : index + 1);
        }
        x.giveBack(0, 2, true);
        due(x.waiting(0, 0), 2);
        due(x.waiting(8, 0), 11);
    }

    private static void numbersOfWaiting() {
        int[][] due = {{0, 1, 4, 4, 0}, {1, 1, 2, 2, 1}};
        SparePlanner x = busy();
        for (int index = 0; index < 2; index++) {
            for (int what = 0; what < 5; what++) {
                due(x.waiting(index, what), due[index][what]);
            }
        }
        x.giveBack(1, 3, true);
        due(x.waiting(0, 2), 4);
        due(x.waiting(0, 3), 1);
        due(x.waiting(0, 4), 0);
    }

    private static void servedStaysIssued() {
        SparePlanner x = stocks(4).and(y -> y.request(0, 7)).get();
        due(x.cancel(0), 3);
        stocksAre(x, 0);
        due(x.movement(0, 7), 4);
        due(x.count(6), 1);
        due(x.count(7), 0);
        due(x.part(0, 7), 0);
        due(x.service(0), 4f / 7f);
    }

    private static void cancelledAtEachIndex() {
        for (int index = 0; index < 12; index++) {
            SparePlanner x = waiting(12).get();
            x.cancel(index);
            due(x.count(2), 11);
            for (int i = 0; i < 11; i++) {
                due(x.waiting(i, 0), i < index ? i : i + 1);
            }
            due(x.request(0, 1), 0);
            due(x.waiting(11, 0), 12);
        }
    }

    private static void cancelledMissing() {
        SparePlanner x = stocks(0, 998).get();
        x.request(0, 999);
        x.request(1, 999);
        due(x.cancel(1), 1);
        x.giveBack(0, 998, true);
        due(x.cancel(0), 1);
        due(stocks(0).and(y -> y.request(0, 999)).get().cancel(0), 999);
    }

    // ---- promises 19 to 21

    private static void piecesOfSubstitutes() {
        for (int own = 0; own <= 9; own++) {
            SparePlanner x = stocks(own, 9).get();
            x.addSubstitute(0, 1);
            x.addKit(0, 0, 9);
            due(x.take(0), 9 - own);
            stocksAre(x, 0, own);
        }
        SparePlanner x = stocks(1, 2, 3).get();
        x.addSubstitute(0, 1);
        x.addSubstitute(0, 2);
        x.addSubstitute(1, 2);
        x.addKit(0, 0, 4);
        x.addKit(0, 1, 2);
        // 1 of part 0, 2 of part 1 and 1 of part 2, then 2 of part 2
        due(x.take(0), 5);
        stocksAre(x, 0, 0, 0);
    }

    private static void itemsThatCannotBeServed() {
        for (int lacking = 0; lacking < 4; lacking++) {
            int[] stocks = {9, 9, 9, 9};
            stocks[lacking] = 8;
            Scene scene = stocks(stocks);
            for (int part = 0; part < 4; part++) {
                int one = part;
                scene = scene.and(x -> x.addKit(0, one, 9));
            }
            SparePlanner x = refusesButKeeps(UNSUPPORTED, scene, y -> y.take(0), "reason");
            due(x.reason(0), 3);
            due(x.reason(1), lacking);
            due(x.reason(2), 1);
            x.giveBack(lacking, 1, true);
            due(x.take(0), 0);
        }
        Scene none = stocks(0).and(x -> x.addKit(0, 0, 9));
        due(refusesButKeeps(UNSUPPORTED, none, x -> x.take(0), "reason").reason(2), 9);
        refusesButKeeps(UNSUPPORTED, Edges::busy, x -> x.take(1), "reason");
    }

    private static Scene withKit(int stock, int quantity) {
        return stocks(stock).and(x -> x.addKit(0, 0, quantity));
    }

    private static void upToNinetyNine() {
        due(withKit(0, 1).get().possible(0), 0);
        due(withKit(1, 1).get().possible(0), 1);
        due(withKit(98, 1).get().possible(0), 98);
        due(withKit(99, 1).get().possible(0), 99);
        due(withKit(100, 1).get().possible(0), 99);
        due(withKit(999, 1).get().possible(0), 99);
        due(withKit(8, 9).get().possible(0), 0);
        due(withKit(9, 9).get().possible(0), 1);
        due(withKit(890, 9).get().possible(0), 98);
        due(withKit(891, 9).get().possible(0), 99);
        due(withKit(999, 9).get().possible(0), 99);
        due(withKit(5, 2).and(x -> x.addPart(1, 1, 1, 1)).and(x -> x.addKit(0, 1, 1)).get().possible(0), 1);
        due(withKit(5, 2).and(x -> x.addPart(1, 1, 1, 1)).and(x -> x.addSubstitute(0, 1)).get().possible(0), 3);
        // the days would bring more, but nothing else happens
        due(withKit(5, 2).and(x -> x.setBounds(0, 9, 99)).get().possible(0), 2);
    }

    private static void whatIsLacking() {
        due(withKit(9, 9).get().lacking(0), -1);
        due(withKit(10, 9).get().lacking(0), -1);
        due(withKit(8, 9).get().lacking(0), 1);
        due(withKit(0, 9).get().lacking(0), 9);
        due(withKit(0, 1).get().lacking(0), 1);
        Scene last = stocks(0, 0, 0, 0, 0, 0, 0, 8).and(x -> x.addKit(0, 7, 9));
        due(last.get().lacking(0), 701);
        due(last.and(x -> x.giveBack(7, 1, true)).get().lacking(0), -1);
        due(last.and(x -> x.addKit(0, 3, 5)).get().lacking(0), 701);
        due(last.and(x -> x.giveBack(7, 1, true)).and(x -> x.addKit(0, 3, 5)).get().lacking(0), 305);
        due(fourKits().get().lacking(0), -1);
        due(fourKits().and(x -> x.request(3, 8)).get().lacking(0), 301);
        due(fourKits().and(x -> x.request(3, 8)).and(x -> x.request(0, 9)).get().lacking(0), 2);
    }
}
