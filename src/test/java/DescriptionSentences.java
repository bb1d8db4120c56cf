/** The sentences of the description, from the parts to the exceptions. */
final class DescriptionSentences extends Edges {
    static void hold() {
        Sentences.under("What it is");
        Sentences.noCase("A planner for spare parts: stocks with bounds, orders that arrive later, substitutes one way and"
            + " both, requests that are served, served in part or wait, returns of good and broken parts, repairs with"
            + " yields, kits that take all or nothing, reasons, movements that add up, shares of service, texts, undo"
            + " and saving.");
        Sentences.hold("An object is used for at most 512 calls after it has been made; what later calls answer is free.",
            DescriptionSentences::call512IsAnswered);
        Sentences.under("Description");
        holdParts();
        holdRequestsAndKits();
        holdRepairsAndOrders();
        holdTheRest();
    }

    private static void holdParts() {
        Sentences.hold("There are at most 8 parts, numbered from 0 in the order in which they were added.",
            DescriptionSentences::partsAreEight);
        Sentences.hold("A part has a stock of good pieces and a number of broken pieces, at first 0; a lower bound and an"
            + " upper bound from 0 to 999, where the lower one is not greater than the upper one; a lead of orders and a"
            + " lead of repairs, from 1 to 9 days; and a yield from 0 to 100.", DescriptionSentences::numbersOfAPart);
        Sentences.hold("At first, both bounds are 0.", DescriptionSentences::boundsAtFirst);
        Sentences.hold("A part can have at most 4 substitutes, which are other parts, in an order, the order in which they"
            + " were added.", DescriptionSentences::substitutesAreFour);
        Sentences.hold("That a part is a substitute of another one does not mean that the other one is one of it.",
            DescriptionSentences::oneWay);
        Sentences.hold("Substitutes of substitutes are no substitutes.", DescriptionSentences::notOfSubstitutes);
        Sentences.hold("To serve a quantity of a part means to take pieces from the stock of the part, as many as there"
            + " are but not more than are wanted; then, if the quantity is not reached, from the stocks of its"
            + " substitutes, one after the other in their order, in the same way.", DescriptionSentences::serving);
        Sentences.hold("What is taken from a stock is issued.", DescriptionSentences::takenIsIssued);
    }

    private static void holdRequestsAndKits() {
        Sentences.hold("A request has a part, a quantity and a number, from 0 in the order in which requests were made.",
            DescriptionSentences::requestNumbers);
        Sentences.hold("It is served at once, as far as possible.", DescriptionSentences::servedAtOnce);
        Sentences.hold("If pieces are missing, it waits, with the missing quantity, behind all other requests that wait.",
            DescriptionSentences::waitsBehindOthers);
        Sentences.hold("At most 12 requests wait.", DescriptionSentences::twelveWait);
        Sentences.hold("Whenever pieces come into a stock, all waiting requests, in their order, are served as far as"
            + " possible, once; those whose missing quantity becomes 0 wait no longer.",
            DescriptionSentences::waitingAreServed);
        Sentences.hold("There are at most 4 kits, numbered from 0 in the order in which they were added.",
            DescriptionSentences::kitsAreFour);
        Sentences.hold("A kit has 1 to 4 items, each with a part and a quantity from 1 to 9; different items have"
            + " different parts.", DescriptionSentences::itemsAreFour);
        Sentences.hold("To take a kit means to serve the quantities of its items, one item after the other, where each"
            + " one must be served completely; if one cannot be, nothing is taken at all.",
            DescriptionSentences::allOrNothing);
        Sentences.hold("Kits never wait.", DescriptionSentences::kitsNeverWait);
        Sentences.hold("Good pieces that are returned come into the stock.", DescriptionSentences::goodPieces);
        Sentences.hold("Broken ones are added to the broken pieces.", DescriptionSentences::brokenPieces);
    }

    private static void holdRepairsAndOrders() {
        Sentences.hold("To send broken pieces to repair means that they are no longer among the broken pieces of the part;"
            + " after as many days as its lead of repairs says, the repair ends: the part has a sum of hundredths, at"
            + " first 0, which increases by the quantity times the yield that the part has then; the sum divided by 100"
            + " and rounded down is the number of pieces that are repaired and come into the stock, and the sum becomes"
            + " the remainder of this division.", DescriptionSentences::repairsEnd);
        Sentences.hold("If that would be more pieces than the quantity, it is the quantity, and the sum decreases by 100"
            + " times the quantity only.", DescriptionSentences::neverMoreThanTheQuantity);
        Sentences.hold("The other pieces are scrapped.", DescriptionSentences::othersAreScrapped);
        Sentences.hold("At most 12 repairs are under way.", DescriptionSentences::twelveRepairs);
        Sentences.hold("The position of a part is its stock, plus the quantities of its orders under way, plus those of"
            + " its repairs under way times the yield, divided by 100 and rounded down for each repair, minus the missing"
            + " quantities of its waiting requests.", DescriptionSentences::positions);
        Sentences.hold("At the end of a day, a part whose position is less than its lower bound is ordered: the quantity"
            + " is the upper bound minus the position, and the order arrives after as many days as its lead of orders"
            + " says.", DescriptionSentences::ordersOfADay);
        Sentences.hold("At most 12 orders are under way; if there are 12, nothing is ordered.",
            DescriptionSentences::twelveOrders);
        Sentences.hold("There is a day number, at first 0.", DescriptionSentences::dayAtFirst);
        Sentences.hold("When a day ends, it increases by 1; then the repairs end whose days have passed, in the order in"
            + " which they were sent; then the orders arrive whose days have passed, in the order in which they were"
            + " made: their pieces come into the stocks; then parts are ordered, in ascending order.",
            DescriptionSentences::aDayEnds);
        Sentences.hold("A repair or order of the day d with the lead n ends on the day d + n.", DescriptionSentences::leads);
        Sentences.hold("For each repair and each order from which pieces come, waiting requests are served before the next"
            + " one is looked at; if no piece comes, they are not.", DescriptionSentences::servedBeforeTheNext);
    }

    private static void holdTheRest() {
        Sentences.hold("For each part the planner counts the pieces that were set as first stock, received by orders,"
            + " returned good, returned broken, sent to repair, repaired, scrapped and issued, in this order, with the"
            + " numbers 0 to 7.", DescriptionSentences::movements);
        Sentences.hold("For each part for which requests were made it counts the pieces that were requested, and those of"
            + " them that were served at once.", DescriptionSentences::requestedPieces);
    }

    // ---- parts and substitutes

    private static void call512IsAnswered() {
        SparePlanner x = new SparePlanner();
        due(x.addPart(3, 1, 1, 0), 0);
        for (int i = 2; i <= 511; i++) {
            due(x.setYield(0, i % 101), i == 2 ? 0 : (i - 1) % 101);
        }
        due(x.setYield(0, 7), 511 % 101);
        SparePlanner days = new SparePlanner();
        days.addPart(3, 1, 1, 0);
        for (int i = 2; i <= 511; i++) {
            due(days.advance(30), 0);
        }
        due(days.count(5), 510 * 30);
    }

    private static void partsAreEight() {
        SparePlanner x = new SparePlanner();
        for (int part = 0; part < 8; part++) {
            due(x.count(0), part);
            due(x.addPart(100 + part, 1, 1, 1), part);
        }
        due(x.count(0), 8);
        stocksAre(x, 100, 101, 102, 103, 104, 105, 106, 107);
        refuses(STATE, eightParts(), y -> y.addPart(1, 1, 1, 1));
        refuses(INDEX, eightParts(), y -> y.part(8, 0));
    }

    private static void numbersOfAPart() {
        SparePlanner x = new SparePlanner();
        x.addPart(0, 1, 1, 0);
        x.addPart(999, 9, 9, 100);
        int[][] due = {{0, 0, 0, 0, 1, 1, 0}, {999, 0, 0, 0, 9, 9, 100}};
        for (int part = 0; part < 2; part++) {
            for (int what = 0; what < 7; what++) {
                due(x.part(part, what), due[part][what]);
            }
        }
        int[][] bounds = {{0, 0}, {0, 999}, {999, 999}, {998, 999}};
        for (int[] both : bounds) {
            x.setBounds(1, both[0], both[1]);
            due(x.part(1, 2), both[0]);
            due(x.part(1, 3), both[1]);
        }
        refuses(ARGUMENT, stocks(1), y -> y.setBounds(0, 999, 998));
        refuses(ARGUMENT, stocks(1), y -> y.setBounds(0, 1, 0));
    }

    private static void boundsAtFirst() {
        // another part was there before, with bounds, until undo, clear or restore took it away
        Deed[] ways = {SparePlanner::undo, SparePlanner::clear, SparePlanner::restore};
        for (Deed way : ways) {
            SparePlanner x = stocks(4).and(SparePlanner::save).and(y -> y.addPart(3, 1, 1, 1)).get();
            x.setBounds(0, 5, 6);
            x.setBounds(1, 7, 8);
            x.undo();
            x.setBounds(1, 8, 9);
            for (int i = 0; i < 3; i++) {
                way.on(x);
            }
            int part = x.addPart(3, 1, 1, 1);
            due(x.part(part, 2), 0);
            due(x.part(part, 3), 0);
            due(x.wanted(part), 0);
        }
    }

    private static void substitutesAreFour() {
        SparePlanner x = fourSubstitutes().get();
        due(x.part(0, 9), 4);
        for (int index = 0; index < 4; index++) {
            due(x.substitute(0, index), index + 1);
        }
        refuses(STATE, fourSubstitutes(), y -> y.addSubstitute(0, 5));
        refuses(ARGUMENT, stocks(1, 1), y -> y.addSubstitute(1, 1));
        due(x.removeSubstitute(0, 2), 3);
        due(x.addSubstitute(0, 5), 4);
        due(x.substitute(0, 1), 3);
        due(x.substitute(0, 3), 5);
    }

    private static void oneWay() {
        SparePlanner x = stocks(3, 4).get();
        x.addSubstitute(0, 1);
        due(x.available(0), 7);
        due(x.available(1), 4);
        due(x.part(1, 9), 0);
        due(x.request(1, 5), 4);
        stocksAre(x, 3, 0);
        due(x.addSubstitute(1, 0), 1);
        due(x.relation(0, 1), 3);
    }

    private static void notOfSubstitutes() {
        SparePlanner x = stocks(1, 2, 4).get();
        x.addSubstitute(0, 1);
        x.addSubstitute(1, 2);
        due(x.available(0), 3);
        due(x.relation(0, 2), 0);
        due(x.request(0, 4), 3);
        stocksAre(x, 0, 0, 4);
    }

    /** Part 0 has 2 pieces, then come 3 of part 2 and 4 of part 1; each quantity up to one more than there are. */
    private static void serving() {
        int[][] left = {{2, 4, 3}, {1, 4, 3}, {0, 4, 3}, {0, 4, 2}, {0, 4, 1}, {0, 4, 0}, {0, 3, 0}, {0, 2, 0}, {0, 1, 0},
            {0, 0, 0}, {0, 0, 0}};
        for (int quantity = 1; quantity <= 10; quantity++) {
            SparePlanner x = stocks(2, 4, 3).get();
            x.addSubstitute(0, 2);
            x.addSubstitute(0, 1);
            due(x.request(0, quantity), Math.min(quantity, 9));
            stocksAre(x, left[quantity]);
            due(x.count(7), quantity == 10 ? 1 : 0);
        }
    }

    private static void takenIsIssued() {
        SparePlanner x = stocks(2, 4).get();
        x.addSubstitute(0, 1);
        x.addKit(0, 0, 1);
        x.request(0, 1);
        due(x.movement(0, 7), 1);
        due(x.movement(1, 7), 0);
        x.take(0);
        due(x.movement(0, 7), 2);
        x.take(0);
        due(x.movement(0, 7), 2);
        due(x.movement(1, 7), 1);
        x.request(0, 5);
        due(x.movement(1, 7), 4);
        x.giveBack(0, 3, true);
        due(x.movement(0, 7), 4);
    }

    // ---- requests and kits

    private static void requestNumbers() {
        SparePlanner x = stocks(1).get();
        x.request(0, 2);
        due(x.waiting(0, 0), 0);
        due(x.waiting(0, 1), 0);
        due(x.waiting(0, 2), 2);
        x.giveBack(0, 2, true);
        x.request(0, 1);
        Check.outcome(() -> x.request(0, 0));
        x.request(0, 999);
        due(x.waiting(0, 0), 2);
        x.cancel(0);
        x.request(0, 1);
        due(x.waiting(0, 0), 3);
        due(x.count(6), 4);
        SparePlanner y = refusesButKeeps(STATE, waiting(12), z -> z.request(0, 1), "reason");
        y.cancel(11);
        y.request(0, 1);
        due(y.waiting(11, 0), 12);
    }

    private static void servedAtOnce() {
        due(stocks(0).get().request(0, 1), 0);
        due(stocks(4).get().request(0, 5), 4);
        due(stocks(5).get().request(0, 5), 5);
        due(stocks(6).get().request(0, 5), 5);
        due(stocks(999).get().request(0, 999), 999);
        due(stocks(998).get().request(0, 999), 998);
    }

    private static void waitsBehindOthers() {
        SparePlanner x = stocks(3, 4).get();
        x.request(0, 3);
        due(x.count(2), 0);
        x.request(1, 5);
        x.request(0, 2);
        x.request(1, 1);
        int[][] due = {{1, 1, 5, 1}, {2, 0, 2, 2}, {3, 1, 1, 1}};
        for (int index = 0; index < 3; index++) {
            for (int what = 0; what < 4; what++) {
                due(x.waiting(index, what), due[index][what]);
            }
        }
        x.cancel(0);
        x.request(1, 9);
        due(x.waiting(2, 0), 4);
    }

    private static void twelveWait() {
        SparePlanner x = waiting(11).get();
        due(x.request(0, 7), 0);
        due(x.count(2), 12);
        due(x.waiting(11, 3), 7);
        refusesButKeeps(STATE, waiting(12), y -> y.request(0, 1), "reason");
        x.giveBack(0, 1, true);
        due(x.count(2), 11);
        due(x.request(0, 1), 0);
        due(x.count(2), 12);
    }

    private static void waitingAreServed() {
        SparePlanner x = stocks(0, 0).get();
        x.addSubstitute(1, 0);
        x.request(0, 3);
        x.request(1, 2);
        x.request(0, 1);
        due(x.giveBack(0, 2, true), 0);
        due(x.waiting(0, 3), 1);
        due(x.giveBack(0, 2, true), 1);
        due(x.waiting(0, 0), 1);
        due(x.waiting(0, 3), 1);
        due(x.giveBack(0, 3, true), 2);
        due(x.count(2), 0);
        stocksAre(x, 1, 0);
    }

    private static void kitsAreFour() {
        SparePlanner x = stocks(1, 1, 1, 1, 1).get();
        for (int kit = 0; kit < 4; kit++) {
            due(x.count(1), kit);
            due(x.addKit(kit, kit + 1, 1), 1);
        }
        due(x.count(1), 4);
        for (int kit = 0; kit < 4; kit++) {
            due(x.item(kit, 0, true), kit + 1);
        }
        refuses(STATE, fourKits(), y -> y.addKit(4, 0, 1));
    }

    private static void itemsAreFour() {
        SparePlanner x = stocks(1, 1, 1, 1, 1).get();
        for (int item = 0; item < 4; item++) {
            due(x.addKit(0, 4 - item, item % 2 == 0 ? 9 : 1), item + 1);
        }
        due(x.item(0, 3, true), 1);
        due(x.item(0, 3, false), 1);
        due(x.item(0, 2, false), 9);
        refuses(STATE, fourKits(), y -> y.addKit(0, 4, 1));
        refuses(STATE, fourKits(), y -> y.addKit(1, 0, 1));
        allowsOnly(1, 9, ARGUMENT, stocks(1), (y, quantity) -> y.addKit(0, 0, quantity));
        refuses(INDEX, fourKits(), y -> y.item(0, 4, true));
    }

    private static void allOrNothing() {
        Scene scene = stocks(3, 3, 3).and(x -> x.addKit(0, 0, 3)).and(x -> x.addKit(0, 1, 3)).and(x -> x.addKit(0, 2, 4));
        SparePlanner x = refusesButKeeps(UNSUPPORTED, scene, y -> y.take(0), "reason");
        stocksAre(x, 3, 3, 3);
        due(x.movement(0, 7), 0);
        x.giveBack(2, 1, true);
        due(x.take(0), 0);
        stocksAre(x, 0, 0, 0);
        refusesButKeeps(UNSUPPORTED, scene.and(y -> y.giveBack(2, 1, true)).and(y -> y.take(0)), y -> y.take(0), "reason");
    }

    private static void kitsNeverWait() {
        Scene scene = stocks(1).and(x -> x.addKit(0, 0, 2));
        SparePlanner x = refusesButKeeps(UNSUPPORTED, scene, y -> y.take(0), "reason");
        due(x.count(2), 0);
        due(x.giveBack(0, 1, true), 0);
        stocksAre(x, 2);
        due(x.count(6), 0);
        due(x.part(0, 7), 2);
    }

    private static void goodPieces() {
        SparePlanner x = stocks(999).get();
        x.giveBack(0, 1, true);
        stocksAre(x, 1000);
        x.giveBack(0, 999, true);
        stocksAre(x, 1999);
        due(x.part(0, 1), 0);
        for (int i = 0; i < 500; i++) {
            x.giveBack(0, 999, true);
        }
        stocksAre(x, 1999 + 500 * 999);
    }

    private static void brokenPieces() {
        SparePlanner x = stocks(999).get();
        x.giveBack(0, 1, false);
        x.giveBack(0, 999, false);
        due(x.part(0, 1), 1000);
        stocksAre(x, 999);
    }

    // ---- repairs, orders and days

    private static void repairsEnd() {
        SparePlanner x = new SparePlanner();
        x.addPart(0, 1, 3, 50);
        x.giveBack(0, 999, false);
        due(x.part(0, 8), 0);
        x.send(0, 1);
        due(x.part(0, 1), 998);
        x.advance(2);
        due(x.count(3), 1);
        x.setYield(0, 99);
        due(x.advance(1), 0);
        due(x.count(3), 0);
        due(x.part(0, 8), 99);
        x.setYield(0, 1);
        x.send(0, 1);
        due(x.advance(3), 1);
        due(x.part(0, 8), 0);
        x.setYield(0, 100);
        x.send(0, 997);
        due(x.part(0, 1), 0);
        due(x.advance(3), 997);
        due(x.part(0, 8), 0);
        stocksAre(x, 998);
    }

    /** The sum is at most 99 between repairs, so that a repair of all pieces never makes one more. */
    private static void neverMoreThanTheQuantity() {
        for (int quantity : new int[] {1, 2, 100, 999}) {
            SparePlanner x = new SparePlanner();
            x.addPart(0, 1, 1, 99);
            x.giveBack(0, 1, false);
            x.giveBack(0, quantity, false);
            x.send(0, 1);
            x.advance(1);
            due(x.part(0, 8), 99);
            x.setYield(0, 100);
            x.send(0, quantity);
            due(x.advance(1), quantity);
            due(x.part(0, 8), 99);
            due(x.movement(0, 6), 1);
        }
    }

    private static void othersAreScrapped() {
        int[] yields = {0, 100, 50, 99, 1};
        int[] scrapped = {10, 0, 5, 1, 10};
        for (int i = 0; i < yields.length; i++) {
            SparePlanner x = new SparePlanner();
            x.addPart(0, 1, 1, yields[i]);
            x.giveBack(0, 10, false);
            x.send(0, 10);
            x.advance(1);
            due(x.movement(0, 6), scrapped[i]);
            due(x.movement(0, 5), 10 - scrapped[i]);
            due(x.part(0, 1), 0);
        }
    }

    private static void twelveRepairs() {
        SparePlanner x = repairs(11).get();
        due(x.send(0, 1), 9);
        due(x.count(3), 12);
        refusesButKeeps(STATE, repairs(12), y -> y.send(0, 1), "reason");
        refusesButKeeps(STATE, repairs(12), y -> y.send(1, 7), "reason");
        x.advance(8);
        due(Check.outcome(() -> x.send(0, 1)), STATE.getSimpleName());
        due(x.advance(1), 12);
        due(x.send(0, 1), 18);
    }

    private static void positions() {
        SparePlanner x = new SparePlanner();
        x.addPart(4, 9, 9, 99);
        x.addPart(0, 9, 9, 50);
        due(x.part(0, 7), 4);
        x.giveBack(0, 999, false);
        due(x.part(0, 7), 4);
        x.send(0, 1);
        x.send(0, 1);
        due(x.part(0, 7), 4);
        x.send(0, 2);
        due(x.part(0, 7), 5);
        x.setYield(0, 100);
        due(x.part(0, 7), 8);
        x.setYield(0, 0);
        due(x.part(0, 7), 4);
        x.request(0, 4);
        due(x.part(0, 7), 0);
        x.request(0, 1);
        due(x.part(0, 7), -1);
        x.request(1, 999);
        due(x.part(1, 7), -999);
        due(x.part(0, 7), -1);
        x.setBounds(0, 999, 999);
        x.advance(1);
        due(x.order(0, 1), 1000);
        due(x.part(0, 7), 999);
        x.cancel(0);
        due(x.part(0, 7), 1000);
    }

    private static void ordersOfADay() {
        int[][] bounds = {{4, 9}, {5, 9}, {5, 5}, {999, 999}, {0, 999}};
        int[] due = {0, 5, 1, 995, 0};
        for (int i = 0; i < bounds.length; i++) {
            SparePlanner x = new SparePlanner();
            x.addPart(4, 9, 1, 1);
            x.setBounds(0, bounds[i][0], bounds[i][1]);
            x.advance(1);
            due(x.count(4), due[i] == 0 ? 0 : 1);
            if (due[i] > 0) {
                due(x.order(0, 1), due[i]);
                due(x.order(0, 2), 10);
                due(x.advance(8), 0);
                due(x.advance(1), due[i]);
                due(x.part(0, 0), bounds[i][1]);
            }
        }
        SparePlanner x = stocks(0).get();
        x.request(0, 1);
        x.advance(1);
        due(x.order(0, 1), 1);
    }

    private static void twelveOrders() {
        SparePlanner x = orders(11).get();
        due(x.count(4), 11);
        x.setBounds(6, 2, 2);
        x.setBounds(7, 2, 2);
        x.advance(1);
        due(x.count(4), 12);
        due(x.order(11, 0), 6);
        due(x.part(7, 7), 1);
        SparePlanner full = orders(12).get();
        due(full.count(4), 12);
        full.setBounds(7, 2, 2);
        full.advance(1);
        due(full.count(4), 12);
        due(full.part(7, 7), 1);
        full.advance(6);
        due(full.count(4), 12);
        due(full.count(5), 9);
        full.advance(1);
        due(full.count(4), 5);
        due(full.order(4, 0), 7);
        due(full.order(4, 2), 19);
    }

    private static void dayAtFirst() {
        due(new SparePlanner().count(5), 0);
        SparePlanner x = busy();
        due(x.count(5), 1);
        x.clear();
        due(x.count(5), 0);
    }

    private static void aDayEnds() {
        SparePlanner x = new SparePlanner();
        x.addPart(0, 1, 2, 100);
        x.addPart(0, 1, 1, 100);
        x.addSubstitute(0, 1);
        x.addSubstitute(1, 0);
        x.giveBack(0, 1, false);
        x.giveBack(1, 1, false);
        x.setBounds(1, 2, 3);
        x.setBounds(0, 3, 4);
        x.send(0, 1);
        x.advance(1);
        due(x.count(5), 1);
        due(x.order(0, 0), 0);
        due(x.order(0, 1), 3);
        due(x.order(1, 0), 1);
        due(x.order(1, 1), 3);
        x.send(1, 1);
        x.request(1, 2);
        due(x.advance(1), 8);
        // the repair of part 0 ends first, then that of part 1; both are issued, and no ordered piece
        due(x.movement(0, 7), 1);
        due(x.movement(1, 7), 1);
        stocksAre(x, 3, 3);
        due(x.count(4), 0);
        x.request(1, 3);
        x.request(0, 1);
        x.advance(1);
        due(x.count(4), 2);
        due(x.order(0, 0), 0);
        due(x.order(1, 0), 1);
    }

    private static void leads() {
        for (int lead = 1; lead <= 9; lead++) {
            SparePlanner x = new SparePlanner();
            x.addPart(0, lead, lead, 100);
            x.advance(3);
            x.giveBack(0, 1, false);
            due(x.send(0, 1), 3 + lead);
            due(x.repair(0, 2), 3 + lead);
            x.request(0, 5);
            for (int day = 4; day <= 4 + lead; day++) {
                due(x.advance(1), day == 3 + lead ? 1 : day == 4 + lead ? 4 : 0);
                due(x.count(3), day < 3 + lead ? 1 : 0);
                due(x.count(4), day < 4 + lead ? 1 : 0);
                if (day < 4 + lead) {
                    due(x.order(0, 2), 4 + lead);
                }
            }
        }
    }

    private static void servedBeforeTheNext() {
        SparePlanner x = new SparePlanner();
        x.addPart(0, 9, 1, 100);
        x.addPart(0, 9, 1, 100);
        x.addPart(0, 9, 1, 0);
        x.addSubstitute(0, 1);
        x.addSubstitute(1, 0);
        for (int part = 0; part < 3; part++) {
            x.giveBack(part, 3, false);
        }
        x.request(0, 2);
        x.request(1, 2);
        x.send(1, 3);
        x.send(0, 3);
        x.advance(1);
        // part 1 comes first: 2 of it serve request 0 and 1 request 1, then part 0 gives what is missing
        due(x.movement(1, 7), 3);
        due(x.movement(0, 7), 1);
        SparePlanner y = stocks(0, 5).get();
        y.addPart(0, 9, 1, 0);
        y.giveBack(2, 3, false);
        y.request(0, 3);
        y.addSubstitute(0, 1);
        y.send(2, 3);
        due(y.advance(1), 0);
        due(y.waiting(0, 3), 3);
        y.setYield(2, 100);
        y.giveBack(2, 1, false);
        y.send(2, 1);
        due(y.advance(1), 1);
        due(y.count(2), 0);
    }

    // ---- movements

    private static void movements() {
        SparePlanner x = new SparePlanner();
        x.addPart(999, 1, 1, 50);
        x.setBounds(0, 999, 999);
        x.giveBack(0, 5, false);
        x.send(0, 3);
        x.request(0, 8);
        x.advance(1);
        x.advance(1);
        x.giveBack(0, 2, true);
        int[] due = {999, 7, 2, 5, 3, 1, 2, 8};
        for (int movement = 0; movement < 8; movement++) {
            due(x.movement(0, movement), due[movement]);
        }
        refuses(ARGUMENT, Edges::busy, y -> y.movement(0, 8));
        SparePlanner fresh = stocks(0).get();
        for (int movement = 0; movement < 8; movement++) {
            due(fresh.movement(0, movement), 0);
        }
    }

    private static void requestedPieces() {
        SparePlanner x = stocks(0, 3, 9).get();
        x.request(0, 999);
        due(x.service(0), 0f);
        x.giveBack(0, 999, true);
        due(x.service(0), 0f);
        x.request(1, 3);
        due(x.service(1), 1f);
        x.request(1, 1);
        due(x.service(1), 3f / 4f);
        due(Check.outcome(() -> x.service(2)), ARITHMETIC.getSimpleName());
    }
}
