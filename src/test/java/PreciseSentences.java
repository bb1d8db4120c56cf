/** The sentences of the paragraph "More precisely". */
final class PreciseSentences extends Edges {
    static void hold() {
        Sentences.under("Description");
        Sentences.noCase("More precisely.");
        Sentences.hold("Whenever pieces come into a stock, the waiting requests of all parts are served, each by its part"
            + " and then its substitutes; nothing else serves them, neither a new request, which is served at once from"
            + " what there is, nor addSubstitute, cancel or undo.", PreciseSentences::onlyPiecesThatComeServe);
        Sentences.hold("Pieces that an item of a kit takes are gone for the later items.", PreciseSentences::piecesAreGone);
        Sentences.hold("An order can be greater than the upper bound, if the position is below 0.",
            PreciseSentences::greaterThanTheUpperBound);
        Sentences.hold("With 12 orders under way, no further part is ordered on this day.",
            PreciseSentences::noFurtherPart);
        Sentences.hold("wanted counts the orders and repairs under way in the position, and does not look at how many"
            + " orders there are.", PreciseSentences::wantedCountsWhatIsUnderWay);
        Sentences.hold("stockAfter tells what advance would make, orders that arise on the way included.",
            PreciseSentences::stockAfterIsAsAdvance);
        Sentences.hold("Pieces that substitutes serve at once count as served at once for the part that was requested, and"
            + " as issued for the part whose stock they were; kits are no requests.", PreciseSentences::whoseShare);
        Sentences.hold("If an entry of a text is refused for another cause than those of the reasons, the reason stays as"
            + " it was.", PreciseSentences::otherCauses);
        Sentences.hold("refused and errorPosition stay behind right texts; an empty input is not a text.",
            PreciseSentences::keptBehindRightTexts);
        Sentences.hold("undo takes numbers of requests back, too.", PreciseSentences::numbersGoBack);
    }

    /** Request 0 of part 0 misses 3 pieces; its substitute, part 1, has 5, but became one only later. */
    private static Scene couldBeServed() {
        return stocks(0, 5, 0).and(x -> x.request(0, 3)).and(x -> x.request(2, 2)).and(x -> x.addSubstitute(0, 1));
    }

    private static void onlyPiecesThatComeServe() {
        due(couldBeServed().get().waiting(0, 3), 3);
        due(couldBeServed().and(x -> x.addSubstitute(2, 1)).get().count(7), 5);
        due(couldBeServed().and(x -> x.removeSubstitute(0, 1)).get().count(7), 5);
        due(couldBeServed().and(x -> x.cancel(1)).get().count(7), 3);
        due(couldBeServed().and(x -> x.cancel(1)).and(SparePlanner::undo).get().count(7), 5);
        due(couldBeServed().and(x -> x.request(1, 4)).get().count(7), 5);
        due(couldBeServed().get().request(0, 4), 4);
        due(couldBeServed().and(x -> x.request(0, 4)).get().waiting(0, 3), 3);
        due(couldBeServed().and(x -> x.request(0, 6)).get().waiting(2, 3), 1);
        due(couldBeServed().and(x -> x.addPart(9, 1, 1, 1)).get().count(7), 5);
        due(couldBeServed().and(x -> x.giveBack(0, 9, false)).get().count(7), 5);
        due(couldBeServed().and(x -> x.addKit(0, 1, 1)).and(x -> x.take(0)).get().count(7), 5);
        due(couldBeServed().and(x -> x.advance(9)).get().count(7), 5);
        due(couldBeServed().and(SparePlanner::save).and(SparePlanner::restore).get().count(7), 5);
        SparePlanner x = couldBeServed().get();
        due(x.giveBack(2, 1, true), 1);
        due(x.waiting(0, 3), 1);
        due(x.waiting(0, 1), 2);
        stocksAre(x, 0, 2, 0);
        // own pieces first, then those of the substitute
        SparePlanner y = couldBeServed().get();
        due(y.giveBack(0, 1, true), 1);
        stocksAre(y, 0, 3, 0);
        due(couldBeServed().and(z -> z.giveBack(1, 1, true)).get().part(1, 0), 3);
    }

    private static void piecesAreGone() {
        Scene scene = stocks(2, 3).and(x -> x.addSubstitute(0, 1)).and(x -> x.addKit(0, 0, 4)).and(x -> x.addKit(0, 1, 1));
        due(scene.get().lacking(0), -1);
        due(scene.get().possible(0), 1);
        due(scene.get().take(0), 2);
        Scene lacks = stocks(2, 3).and(x -> x.addSubstitute(0, 1)).and(x -> x.addKit(0, 0, 4)).and(x -> x.addKit(0, 1, 2));
        due(lacks.get().lacking(0), 101);
        due(lacks.get().possible(0), 0);
        SparePlanner x = refusesButKeeps(UNSUPPORTED, lacks, y -> y.take(0), "reason");
        due(x.reason(1), 1);
        due(x.reason(2), 1);
        Scene turned = stocks(2, 3).and(y -> y.addSubstitute(0, 1)).and(y -> y.addKit(0, 1, 2)).and(y -> y.addKit(0, 0, 4));
        due(turned.get().lacking(0), 1);
    }

    private static void greaterThanTheUpperBound() {
        SparePlanner x = stocks(0, 0, 0).get();
        x.setBounds(0, 0, 7);
        x.request(0, 1);
        x.request(1, 999);
        x.request(1, 999);
        x.setBounds(2, 1, 7);
        x.advance(1);
        due(x.order(0, 1), 8);
        due(x.order(1, 1), 1998);
        due(x.order(2, 1), 7);
        for (int part = 0; part < 3; part++) {
            due(x.part(part, 7), x.part(part, 3));
        }
        SparePlanner most = stocks(0).and(y -> y.setBounds(0, 999, 999)).get();
        for (int i = 0; i < 12; i++) {
            most.request(0, 999);
        }
        due(most.count(7), 12 * 999);
        due(most.wanted(0), 13 * 999);
        most.advance(1);
        due(most.order(0, 1), 13 * 999);
        due(most.advance(9), 13 * 999);
        stocksAre(most, 999);
        due(most.count(2), 0);
    }

    private static void noFurtherPart() {
        SparePlanner x = orders(10).get();
        for (int part = 4; part < 8; part++) {
            x.setBounds(part, 2, 2);
        }
        x.advance(1);
        due(x.count(4), 12);
        due(x.order(10, 0), 4);
        due(x.order(11, 0), 5);
        due(x.part(6, 7), 1);
        due(x.part(7, 7), 1);
        x.advance(1);
        due(x.count(4), 12);
        due(x.part(6, 7), 1);
    }

    private static void wantedCountsWhatIsUnderWay() {
        for (int under = 8; under <= 12; under++) {
            SparePlanner x = orders(under).get();
            due(x.count(4), under);
            due(x.wanted(7), 0);
            x.setBounds(7, 2, 999);
            due(x.wanted(7), 998);
            x.giveBack(7, 2, false);
            x.send(7, 1);
            due(x.wanted(7), 0);
            x.setYield(7, 99);
            due(x.wanted(7), 998);
            x.setBounds(7, 1, 999);
            due(x.wanted(7), 0);
        }
    }

    private static void stockAfterIsAsAdvance() {
        Scene[] scenes = {Edges::busy, orders(8), orders(12), repairs(12), waiting(12)};
        for (Scene scene : scenes) {
            for (int days = 1; days <= 30; days++) {
                SparePlanner x = scene.get();
                int[] told = {x.stockAfter(0, days), x.stockAfter(1, days)};
                x.advance(days);
                stocksAre(x, told);
            }
        }
        SparePlanner x = new SparePlanner();
        x.addPart(0, 9, 1, 1);
        x.setBounds(0, 1, 999);
        due(x.stockAfter(0, 0), 0);
        due(x.stockAfter(0, 9), 0);
        due(x.stockAfter(0, 10), 999);
        due(x.stockAfter(0, 30), 999);
        due(x.count(4), 0);
    }

    private static void whoseShare() {
        SparePlanner x = stocks(0, 3).get();
        x.addSubstitute(0, 1);
        x.addKit(0, 0, 1);
        x.take(0);
        due(x.count(6), 0);
        due(Check.outcome(() -> x.service(0)), ARITHMETIC.getSimpleName());
        due(Check.outcome(x::weakest), ELEMENT.getSimpleName());
        x.request(0, 3);
        due(x.service(0), 2f / 3f);
        due(x.movement(0, 7), 0);
        due(x.movement(1, 7), 3);
        due(Check.outcome(() -> x.service(1)), ARITHMETIC.getSimpleName());
        x.giveBack(1, 1, true);
        due(x.movement(1, 7), 4);
        due(x.service(0), 2f / 3f);
    }

    private static void otherCauses() {
        for (String text : new String[] {"r3*1;", "g3*1;", "b7*1;", "s3*1;", "k2;", "k3;", "d1;g0*1;k2;"}) {
            SparePlanner x = refusesButKeeps(UNSUPPORTED, input(text), SparePlanner::read, "input", "refused entry");
            due(x.reason(0), 3);
            due(x.reason(1), 1);
            due(x.reason(2), 9);
        }
        SparePlanner none = stocks(1).get();
        due(Check.read(none, "k0;"), UNSUPPORTED.getSimpleName());
        due(Check.outcome(() -> none.reason(0)), ELEMENT.getSimpleName());
        SparePlanner wrong = refusesButKeeps(ARGUMENT, input("s0*9;x"), SparePlanner::read, "input", "error position");
        due(wrong.reason(0), 3);
    }

    private static void keptBehindRightTexts() {
        SparePlanner x = busy();
        Check.outcome(x::read);
        due(x.errorPosition(), 7);
        due(Check.read(x, "d1;g0*1;"), "2");
        due(x.errorPosition(), 7);
        due(x.refused(), 1);
        due(Check.read(x, ""), ARGUMENT.getSimpleName());
        due(x.errorPosition(), 0);
        due(x.refused(), 1);
        due(x.count(5), 2);
        SparePlanner fresh = new SparePlanner();
        due(Check.read(fresh, "d1;"), "1");
        due(Check.outcome(fresh::errorPosition), ELEMENT.getSimpleName());
        due(Check.outcome(fresh::refused), ELEMENT.getSimpleName());
        due(Check.outcome(fresh::read), ARGUMENT.getSimpleName());
        due(fresh.errorPosition(), 0);
        due(fresh.undo(), 0);
    }

    private static void numbersGoBack() {
        SparePlanner x = stocks(1).get();
        x.request(0, 3);
        x.request(0, 1);
        due(x.undo(), 2);
        due(x.count(6), 1);
        x.request(0, 1);
        due(x.waiting(1, 0), 1);
        x.undo();
        x.undo();
        due(x.count(6), 0);
        due(Check.read(x, "r0*2;r0*1;"), "2");
        due(x.waiting(1, 0), 1);
        x.undo();
        x.request(0, 2);
        due(x.waiting(0, 0), 0);
    }
}
