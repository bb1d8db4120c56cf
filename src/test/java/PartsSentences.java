/** The sentences of the promises 1 to 13: parts, substitutes and kits. */
final class PartsSentences extends Edges {
    static void hold() {
        holdNewAndClear();
        holdAddPart();
        holdSetters();
        holdAddSubstitute();
        holdRemoveSubstitute();
        holdAddKit();
        holdCountAndPart();
        holdSubstitutesAndItems();
    }

    private static void holdNewAndClear() {
        Sentences.under("Promise 1: A new object");
        Sentences.hold("Creates a planner without parts and kits.", PartsSentences::newPlanner);
        Sentences.under("Promise 2: clear");
        Sentences.hold("Removes all parts, kits, requests, repairs and orders, and makes the day and all counts 0.",
            PartsSentences::clearRemovesAll);
        Sentences.hold("The shelves, the input, the error position, the reasons and what was saved stay.",
            PartsSentences::clearLeavesTheRest);
        Sentences.hold("Returns the number of parts that there were.", PartsSentences::clearCounts);
    }

    private static void holdAddPart() {
        Sentences.under("Promise 3: addPart");
        Sentences.noCase("Adds a part.");
        Sentences.hold("- `stock`: the first stock, 0 to 999",
            () -> allowsOnly(0, 999, ARGUMENT, Edges::busy, (x, stock) -> x.addPart(stock, 1, 1, 1)));
        Sentences.hold("- `orderLead`: the lead of orders, 1 to 9",
            () -> allowsOnly(1, 9, ARGUMENT, Edges::busy, (x, lead) -> x.addPart(1, lead, 1, 1)));
        Sentences.hold("- `repairLead`: the lead of repairs, 1 to 9",
            () -> allowsOnly(1, 9, ARGUMENT, Edges::busy, (x, lead) -> x.addPart(1, 1, lead, 1)));
        Sentences.hold("- `percent`: the yield, 0 to 100",
            () -> allowsOnly(0, 100, ARGUMENT, Edges::busy, (x, percent) -> x.addPart(1, 1, 1, percent)));
        Sentences.hold("Returns the number of the part.", PartsSentences::numbersOfNewParts);
        Sentences.hold("Throws `IllegalArgumentException` if a number is out of range", PartsSentences::wrongNewParts);
        Sentences.hold("Throws `IllegalStateException` if there are 8 parts", PartsSentences::ninthPart);
    }

    private static void holdSetters() {
        Sentences.under("Promise 4: setBounds");
        Sentences.noCase("Sets the bounds of a part.");
        Sentences.hold("- `lower`: the lower bound",
            () -> allowsOnly(0, 999, ARGUMENT, Edges::busy, (x, lower) -> x.setBounds(1, lower, 999)));
        Sentences.hold("- `upper`: the upper bound",
            () -> allowsOnly(0, 999, ARGUMENT, Edges::busy, (x, upper) -> x.setBounds(1, 0, upper)));
        Sentences.hold("Returns the previous lower bound.", PartsSentences::previousLowerBound);
        Sentences.hold("Throws `IndexOutOfBoundsException` if there is no such part",
            () -> wantsPart((x, part) -> x.setBounds(part, 1, 2)));
        Sentences.hold("Throws `IllegalArgumentException` if a bound is out of range, or lower is greater than upper",
            PartsSentences::wrongBounds);
        Sentences.under("Promise 5: setYield");
        Sentences.noCase("Sets the yield of a part.");
        Sentences.hold("- `percent`: the yield, 0 to 100", PartsSentences::yieldsAtTheirEnds);
        Sentences.hold("Returns the previous yield.", PartsSentences::previousYield);
        Sentences.hold("Throws `IndexOutOfBoundsException` if there is no such part",
            () -> wantsPart((x, part) -> x.setYield(part, 1)));
        Sentences.hold("Throws `IllegalArgumentException` if percent is out of range",
            () -> allowsOnly(0, 100, ARGUMENT, Edges::busy, (x, percent) -> x.setYield(2, percent)));
    }

    private static void holdAddSubstitute() {
        Sentences.under("Promise 6: addSubstitute");
        Sentences.hold("Adds a substitute behind the other ones of a part.", PartsSentences::behindTheOthers);
        Sentences.noCase("- `other`: the number of the substitute");
        Sentences.hold("Returns the number of substitutes of the part then.", PartsSentences::substitutesThen);
        Sentences.hold("Throws `IndexOutOfBoundsException` if one of the parts does not exist", () -> {
            wantsPart((x, part) -> x.addSubstitute(part, 1));
            wantsPart((x, other) -> x.addSubstitute(1, other));
        });
        Sentences.hold("Throws `IllegalArgumentException` if both are the same", PartsSentences::itsOwnSubstitute);
        Sentences.hold("Throws `IllegalStateException` if the part has 4 substitutes, or the other one is one of them",
            PartsSentences::fifthSubstitute);
    }

    private static void holdRemoveSubstitute() {
        Sentences.under("Promise 7: removeSubstitute");
        Sentences.hold("Removes a substitute of a part; the order of the others stays.", PartsSentences::orderStays);
        Sentences.noCase("- `other`: the number of the substitute");
        Sentences.hold("Returns the number of substitutes that remain.", PartsSentences::substitutesThatRemain);
        Sentences.hold("Throws `IndexOutOfBoundsException` if one of the parts does not exist", () -> {
            wantsPart((x, part) -> x.removeSubstitute(part, 2));
            wantsPart((x, other) -> x.removeSubstitute(0, other));
        });
        Sentences.hold("Throws `NoSuchElementException` if the other one is no substitute of the part",
            PartsSentences::noSubstituteOfThePart);
    }

    private static void holdAddKit() {
        Sentences.under("Promise 8: addKit");
        Sentences.hold("Adds a kit with one item, or an item to a kit.", PartsSentences::kitOrItem);
        Sentences.hold("- `kit`: the number of the kit, or the number of kits for a new one", PartsSentences::newKits);
        Sentences.noCase("- `part`: the part of the item");
        Sentences.noCase("- `quantity`: the quantity of the item");
        Sentences.hold("Returns the number of items of the kit then.", PartsSentences::itemsThen);
        Sentences.hold("Throws `IndexOutOfBoundsException` if there is no such part, or kit is not from 0 to the number of"
            + " kits", PartsSentences::kitsThatCannotBe);
        Sentences.hold("Throws `IllegalArgumentException` if quantity is not from 1 to 9",
            () -> allowsOnly(1, 9, ARGUMENT, Edges::busy, (x, quantity) -> x.addKit(1, 0, quantity)));
        Sentences.hold("Throws `IllegalStateException` if there would be more than 4 kits, the kit has 4 items, or one of"
            + " them has this part", PartsSentences::fullKits);
    }

    private static void holdCountAndPart() {
        Sentences.under("Promise 9: count");
        Sentences.noCase("Returns a count.");
        Sentences.hold("- `what`: 0 for parts, 1 for kits, 2 for waiting requests, 3 for repairs under way, 4 for orders"
            + " under way, 5 for the day, 6 for all requests that were made, 7 for all missing quantities",
            PartsSentences::counts);
        Sentences.noCase("Returns the count.");
        Sentences.hold("Throws `IllegalArgumentException` if what is not 0 to 7", () -> {
            allowsOnly(0, 7, ARGUMENT, Edges::busy, SparePlanner::count);
            allowsOnly(0, 7, ARGUMENT, SparePlanner::new, SparePlanner::count);
        });
        Sentences.under("Promise 10: part");
        Sentences.noCase("Returns a number of a part.");
        Sentences.hold("- `what`: 0 for the stock, 1 for the broken pieces, 2 and 3 for the lower and the upper bound, 4 and"
            + " 5 for the leads of orders and repairs, 6 for the yield, 7 for the position, 8 for the sum of hundredths, 9"
            + " for the number of substitutes", PartsSentences::numbersOfParts);
        Sentences.noCase("Returns the number.");
        Sentences.hold("Throws `IndexOutOfBoundsException` if there is no such part",
            () -> wantsPart((x, part) -> x.part(part, 9)));
        Sentences.hold("Throws `IllegalArgumentException` if what is not 0 to 9",
            () -> allowsOnly(0, 9, ARGUMENT, Edges::busy, (x, what) -> x.part(2, what)));
    }

    private static void holdSubstitutesAndItems() {
        Sentences.under("Promise 11: substitute");
        Sentences.noCase("Returns a substitute of a part.");
        Sentences.hold("- `index`: the index in the order of the substitutes, from 0", PartsSentences::indicesOfSubstitutes);
        Sentences.noCase("Returns the number of the substitute.");
        Sentences.hold("Throws `IndexOutOfBoundsException` if there is no such part",
            () -> wantsPart((x, part) -> x.substitute(part, 0)));
        Sentences.hold("Throws `NoSuchElementException` if there is no such substitute", PartsSentences::noSuchSubstitute);
        Sentences.under("Promise 12: relation");
        Sentences.noCase("Returns whether two parts are substitutes of one another.");
        Sentences.noCase("- `one`: the number of the one part");
        Sentences.noCase("- `other`: the number of the other part");
        Sentences.hold("Returns 0 if neither is, 1 if the other one is a substitute of the one, 2 if the one is a"
            + " substitute of the other one, 3 for both.", PartsSentences::relations);
        Sentences.hold("Throws `IndexOutOfBoundsException` if one of the parts does not exist", () -> {
            wantsPart((x, one) -> x.relation(one, 2));
            wantsPart((x, other) -> x.relation(0, other));
        });
        Sentences.under("Promise 13: item");
        Sentences.noCase("Returns a number of an item of a kit.");
        Sentences.hold("- `index`: the index of the item, from 0", PartsSentences::indicesOfItems);
        Sentences.hold("- `isPart`: true for its part, false for its quantity", PartsSentences::partAndQuantity);
        Sentences.noCase("Returns the number.");
        Sentences.hold("Throws `IndexOutOfBoundsException` if there is no such kit or item", PartsSentences::noSuchItem);
    }

    // ---- promises 1 and 2

    private static void newPlanner() {
        SparePlanner x = new SparePlanner();
        for (int what = 0; what < 8; what++) {
            due(x.count(what), 0);
        }
        due(x.audit(), 0);
        refuses(INDEX, SparePlanner::new, y -> y.part(0, 0));
        refuses(INDEX, SparePlanner::new, y -> y.item(0, 0, true));
        refuses(INDEX, SparePlanner::new, y -> y.waiting(0, 0));
        refuses(INDEX, SparePlanner::new, y -> y.repair(0, 0));
        refuses(INDEX, SparePlanner::new, y -> y.order(0, 0));
        refuses(ELEMENT, SparePlanner::new, SparePlanner::undo);
        refuses(STATE, SparePlanner::new, SparePlanner::restore);
        due(x.addPart(1, 1, 1, 1), 0);
        // one planner has nothing of another one
        due(new SparePlanner().count(0), 0);
    }

    private static void clearRemovesAll() {
        SparePlanner x = cleared().get();
        due(Answers.ofWorld(x), Answers.ofWorld(new SparePlanner()));
        due(Check.outcome(x::undo), ELEMENT.getSimpleName());
        refuses(INDEX, cleared(), y -> y.item(0, 0, true));
        refuses(INDEX, cleared(), y -> y.waiting(0, 0));
        refuses(INDEX, cleared(), y -> y.repair(0, 0));
        refuses(INDEX, cleared(), y -> y.order(0, 0));
        Scene full = () -> {
            SparePlanner y = eightParts().get();
            y.clear();
            return y;
        };
        SparePlanner y = full.get();
        for (int part = 0; part < 8; part++) {
            due(y.addPart(9, 1, 1, 1), part);
            due(y.part(part, 9), 0);
            due(y.movement(part, 7), 0);
        }
        due(y.addKit(0, 0, 1), 1);
        y.request(0, 10);
        due(y.waiting(0, 0), 0);
        due(y.waiting(0, 4), 0);
        nothingShinesThrough();
    }

    /** What is added behind clear has nothing of what was there before. */
    private static void nothingShinesThrough() {
        Scene[] scenes = {cleared(), repairs(12).and(x -> x.advance(9)).and(SparePlanner::clear),
            fourSubstitutes().and(x -> x.request(0, 9)).and(SparePlanner::clear),
            ((Scene) Edges::busy).and(x -> x.advance(2)).and(SparePlanner::clear), orders(12).and(SparePlanner::clear)};
        for (Scene scene : scenes) {
            SparePlanner x = scene.get();
            SparePlanner y = new SparePlanner();
            for (SparePlanner either : new SparePlanner[] {x, y}) {
                for (int part = 0; part < 3; part++) {
                    either.addPart(part, 9, 9, 1);
                    either.addKit(part, part, 1);
                    either.request(part, part + 1);
                }
            }
            due(Answers.ofWorld(x), Answers.ofWorld(y));
        }
    }

    private static void clearLeavesTheRest() {
        SparePlanner x = busy();
        String rest = Answers.ofRest(x);
        x.clear();
        due(Answers.ofRest(x), rest);
        due(x.reason(2), 9);
        due(x.errorPosition(), 3);
        due(x.sampled(1, 0, 0), 2);
        due(x.append(';'), 8);
        // the input was d1;g1*7; now, and there is no part 1 any more
        due(Check.outcome(x::read), UNSUPPORTED.getSimpleName());
        due(x.refused(), 1);
        due(x.restore(), 3);
        due(x.part(0, 1), 7);
        alike(cleared().and(SparePlanner::restore), ((Scene) Edges::busy).and(SparePlanner::restore));
    }

    private static void clearCounts() {
        due(new SparePlanner().clear(), 0);
        due(stocks(1).get().clear(), 1);
        due(eightParts().get().clear(), 8);
        due(cleared().get().clear(), 0);
        due(stocks(1, 1).and(SparePlanner::undo).get().clear(), 1);
    }

    // ---- promises 3 to 5

    private static void numbersOfNewParts() {
        due(stocks().get().addPart(1, 1, 1, 1), 0);
        due(stocks(1, 1, 1, 1, 1, 1, 1).get().addPart(1, 1, 1, 1), 7);
        due(cleared().get().addPart(1, 1, 1, 1), 0);
        due(stocks(1, 1).and(SparePlanner::undo).get().addPart(1, 1, 1, 1), 1);
    }

    private static void wrongNewParts() {
        int[][] wrong = {{-1, 1, 1, 1}, {1000, 1, 1, 1}, {0, 0, 1, 1}, {0, 10, 1, 1}, {0, 1, 0, 1}, {0, 1, 10, 1},
            {0, 1, 1, -1}, {0, 1, 1, 101}, {-1, 0, 10, 101}};
        for (int[] numbers : wrong) {
            for (Scene scene : new Scene[] {SparePlanner::new, Edges::busy, eightParts()}) {
                refuses(ARGUMENT, scene, x -> x.addPart(numbers[0], numbers[1], numbers[2], numbers[3]));
            }
        }
    }

    private static void ninthPart() {
        refuses(STATE, eightParts(), x -> x.addPart(0, 1, 1, 0));
        refuses(STATE, eightParts(), x -> x.addPart(999, 9, 9, 100));
        due(stocks(1, 1, 1, 1, 1, 1, 1).get().addPart(0, 1, 1, 0), 7);
        due(eightParts().and(SparePlanner::undo).get().addPart(0, 1, 1, 0), 7);
    }

    private static void previousLowerBound() {
        SparePlanner x = stocks(1, 1).get();
        due(x.setBounds(0, 999, 999), 0);
        due(x.setBounds(0, 0, 5), 999);
        due(x.setBounds(0, 3, 4), 0);
        due(x.setBounds(1, 1, 1), 0);
        due(x.setBounds(0, 3, 4), 3);
        x.undo();
        x.undo();
        x.undo();
        due(x.setBounds(0, 7, 7), 0);
    }

    private static void wrongBounds() {
        int[][] wrong = {{-1, 0}, {-1, -1}, {0, 1000}, {999, 1000}, {1000, 1000}, {1000, 999}, {999, 998}, {1, 0}, {0, -1},
            {Integer.MIN_VALUE, Integer.MAX_VALUE}, {Integer.MAX_VALUE, Integer.MIN_VALUE}};
        for (int[] both : wrong) {
            refuses(ARGUMENT, Edges::busy, x -> x.setBounds(0, both[0], both[1]));
        }
        for (int[] both : new int[][] {{0, 0}, {999, 999}, {0, 999}, {500, 500}}) {
            due(Check.outcome(() -> busy().setBounds(0, both[0], both[1])), "3");
        }
    }

    private static void yieldsAtTheirEnds() {
        SparePlanner x = busy();
        x.setYield(0, 0);
        due(x.part(0, 6), 0);
        x.setYield(0, 100);
        due(x.part(0, 6), 100);
        due(x.part(2, 6), 30);
    }

    private static void previousYield() {
        SparePlanner x = busy();
        due(x.setYield(0, 0), 50);
        due(x.setYield(0, 100), 0);
        due(x.setYield(0, 100), 100);
        due(x.setYield(2, 1), 30);
        x.undo();
        due(x.setYield(2, 2), 30);
    }

    // ---- promises 6 and 7

    private static void behindTheOthers() {
        SparePlanner x = eightParts().get();
        int[] others = {7, 0, 6, 1};
        for (int index = 0; index < 4; index++) {
            x.addSubstitute(3, others[index]);
            due(x.substitute(3, index), others[index]);
            due(x.substitute(3, 0), 7);
        }
    }

    private static void substitutesThen() {
        SparePlanner x = stocks(1, 1, 1, 1, 1).get();
        for (int other = 1; other <= 4; other++) {
            due(x.addSubstitute(0, other), other);
        }
        due(x.addSubstitute(1, 0), 1);
    }

    private static void itsOwnSubstitute() {
        for (int part = 0; part < 3; part++) {
            int same = part;
            refuses(ARGUMENT, Edges::busy, x -> x.addSubstitute(same, same));
        }
        refuses(ARGUMENT, fourSubstitutes(), x -> x.addSubstitute(0, 0));
        answers(stocks(1, 1), x -> x.addSubstitute(0, 1));
        answers(stocks(1, 1), x -> x.addSubstitute(1, 0));
    }

    private static void fifthSubstitute() {
        refuses(STATE, fourSubstitutes(), x -> x.addSubstitute(0, 5));
        for (int other = 1; other <= 4; other++) {
            int same = other;
            refuses(STATE, fourSubstitutes(), x -> x.addSubstitute(0, same));
        }
        refuses(STATE, Edges::busy, x -> x.addSubstitute(0, 2));
        due(fourSubstitutes().and(x -> x.removeSubstitute(0, 4)).get().addSubstitute(0, 5), 4);
        due(fourSubstitutes().and(SparePlanner::undo).get().addSubstitute(0, 5), 4);
        due(fourSubstitutes().get().addSubstitute(5, 0), 1);
        due(fourSubstitutes().get().addSubstitute(1, 0), 1);
    }

    private static void orderStays() {
        int[][] left = {{2, 3, 4}, {1, 3, 4}, {1, 2, 4}, {1, 2, 3}};
        for (int index = 0; index < 4; index++) {
            SparePlanner x = fourSubstitutes().get();
            x.removeSubstitute(0, index + 1);
            for (int i = 0; i < 3; i++) {
                due(x.substitute(0, i), left[index][i]);
            }
            due(Check.outcome(() -> x.substitute(0, 3)), ELEMENT.getSimpleName());
            due(x.relation(0, index + 1), 0);
        }
        SparePlanner both = busy();
        both.removeSubstitute(0, 2);
        due(both.relation(0, 2), 2);
    }

    private static void substitutesThatRemain() {
        SparePlanner x = fourSubstitutes().get();
        for (int other = 4; other >= 1; other--) {
            due(x.removeSubstitute(0, other), other - 1);
        }
        due(x.part(0, 9), 0);
        due(x.available(0), 1);
    }

    private static void noSubstituteOfThePart() {
        refuses(ELEMENT, stocks(1, 1), x -> x.removeSubstitute(0, 1));
        refuses(ELEMENT, stocks(1, 1), x -> x.removeSubstitute(0, 0));
        refuses(ELEMENT, fourSubstitutes(), x -> x.removeSubstitute(0, 5));
        refuses(ELEMENT, fourSubstitutes(), x -> x.removeSubstitute(1, 0));
        refuses(ELEMENT, fourSubstitutes().and(x -> x.removeSubstitute(0, 4)), x -> x.removeSubstitute(0, 4));
    }

    // ---- promise 8

    private static void kitOrItem() {
        SparePlanner x = stocks(1, 1).get();
        due(x.addKit(0, 0, 1), 1);
        due(x.count(1), 1);
        due(x.addKit(0, 1, 9), 2);
        due(x.count(1), 1);
        due(x.addKit(1, 1, 1), 1);
        due(x.count(1), 2);
    }

    private static void newKits() {
        SparePlanner x = stocks(1).get();
        for (int kit = 0; kit < 4; kit++) {
            due(x.addKit(kit, 0, kit + 1), 1);
            due(x.item(kit, 0, false), kit + 1);
        }
        SparePlanner y = fourKits().and(SparePlanner::undo).get();
        due(y.count(1), 3);
        due(y.addKit(3, 4, 5), 1);
        due(y.item(3, 0, true), 4);
        due(Check.outcome(() -> y.item(3, 1, true)), INDEX.getSimpleName());
    }

    private static void itemsThen() {
        SparePlanner x = stocks(1, 1, 1, 1).get();
        for (int part = 0; part < 4; part++) {
            due(x.addKit(0, part, 1), part + 1);
        }
        due(x.addKit(1, 0, 1), 1);
    }

    private static void kitsThatCannotBe() {
        wantsPart((x, part) -> x.addKit(x.count(1), part, 1));
        for (int kit : new int[] {-1, 3, 4, Integer.MIN_VALUE, Integer.MAX_VALUE}) {
            refuses(INDEX, Edges::busy, x -> x.addKit(kit, 0, 1));
        }
        refuses(INDEX, stocks(1), x -> x.addKit(1, 0, 1));
        refuses(INDEX, stocks(1), x -> x.addKit(-1, 0, 1));
        refuses(INDEX, fourKits(), x -> x.addKit(5, 0, 1));
        due(stocks(1).get().addKit(0, 0, 1), 1);
        due(busy().addKit(2, 0, 1), 1);
    }

    private static void fullKits() {
        refuses(STATE, fourKits(), x -> x.addKit(4, 0, 1));
        refuses(STATE, fourKits(), x -> x.addKit(0, 4, 1));
        refuses(STATE, fourKits(), x -> x.addKit(0, 3, 1));
        refuses(STATE, fourKits(), x -> x.addKit(3, 0, 9));
        refuses(STATE, Edges::busy, x -> x.addKit(0, 2, 5));
        due(fourKits().get().addKit(3, 4, 1), 2);
        due(fourKits().and(x -> x.addKit(1, 1, 1)).and(x -> x.addKit(1, 2, 1)).get().addKit(1, 3, 1), 4);
        due(fourKits().and(SparePlanner::undo).get().addKit(3, 0, 1), 1);
    }

    // ---- promises 9 to 13

    private static void countsAre(Scene scene, int... due) {
        SparePlanner x = scene.get();
        for (int what = 0; what < 8; what++) {
            due(x.count(what), due[what]);
        }
    }

    private static void counts() {
        countsAre(SparePlanner::new, 0, 0, 0, 0, 0, 0, 0, 0);
        countsAre(Edges::busy, 3, 2, 2, 1, 1, 1, 2, 6);
        countsAre(waiting(12), 2, 0, 12, 0, 0, 0, 12, 12);
        countsAre(waiting(12).and(x -> x.request(1, 5)).and(x -> x.cancel(0)), 2, 0, 11, 0, 0, 0, 13, 11);
        countsAre(repairs(12), 2, 0, 0, 12, 0, 0, 0, 0);
        countsAre(orders(12), 8, 0, 0, 0, 12, 2, 0, 0);
        countsAre(fourKits(), 5, 4, 0, 0, 0, 0, 0, 0);
    }

    private static void numbersOfParts() {
        int[][] due = {{5, 4, 3, 9, 2, 3, 50, 6, 0, 1}, {0, 0, 0, 0, 2, 1, 100, -2, 0, 0}, {9, 0, 0, 0, 4, 2, 30, 9, 0, 1}};
        SparePlanner x = busy();
        for (int part = 0; part < 3; part++) {
            for (int what = 0; what < 10; what++) {
                due(x.part(part, what), due[part][what]);
            }
        }
        x.advance(2);
        due(x.part(0, 8), 50);
        due(x.part(0, 7), 6);
    }

    private static void indicesOfSubstitutes() {
        SparePlanner x = fourSubstitutes().get();
        for (int index = 0; index < 4; index++) {
            due(x.substitute(0, index), index + 1);
        }
        due(busy().substitute(2, 0), 0);
    }

    private static void noSuchSubstitute() {
        for (int index : new int[] {-1, 4, 5, Integer.MIN_VALUE, Integer.MAX_VALUE}) {
            refuses(ELEMENT, fourSubstitutes(), x -> x.substitute(0, index));
        }
        refuses(ELEMENT, fourSubstitutes(), x -> x.substitute(5, 0));
        refuses(ELEMENT, Edges::busy, x -> x.substitute(0, 1));
        refuses(ELEMENT, Edges::busy, x -> x.substitute(0, -1));
        refuses(ELEMENT, fourSubstitutes().and(x -> x.removeSubstitute(0, 1)), x -> x.substitute(0, 3));
        refuses(ELEMENT, fourSubstitutes().and(SparePlanner::undo), x -> x.substitute(0, 3));
    }

    private static void relations() {
        SparePlanner x = stocks(1, 1, 1).get();
        due(x.relation(0, 1), 0);
        due(x.relation(0, 0), 0);
        x.addSubstitute(0, 1);
        due(x.relation(0, 1), 1);
        due(x.relation(1, 0), 2);
        x.addSubstitute(1, 0);
        due(x.relation(0, 1), 3);
        due(x.relation(1, 0), 3);
        x.addSubstitute(1, 2);
        due(x.relation(0, 2), 0);
        due(x.relation(0, 0), 0);
        x.removeSubstitute(0, 1);
        due(x.relation(0, 1), 2);
    }

    private static void indicesOfItems() {
        SparePlanner x = fourKits().get();
        for (int index = 0; index < 4; index++) {
            due(x.item(0, index, true), index);
        }
        due(x.item(3, 0, true), 0);
    }

    private static void partAndQuantity() {
        SparePlanner x = stocks(1, 1, 1, 1, 1, 1, 1, 1).get();
        x.addKit(0, 7, 1);
        x.addKit(0, 0, 9);
        due(x.item(0, 0, true), 7);
        due(x.item(0, 0, false), 1);
        due(x.item(0, 1, true), 0);
        due(x.item(0, 1, false), 9);
    }

    private static void noSuchItem() {
        wantsKit((x, kit) -> x.item(kit, 0, true));
        for (boolean isPart : new boolean[] {true, false}) {
            for (int index : new int[] {-1, 4, Integer.MIN_VALUE, Integer.MAX_VALUE}) {
                refuses(INDEX, fourKits(), x -> x.item(0, index, isPart));
            }
            for (int index : new int[] {-1, 1, 3, 4}) {
                refuses(INDEX, fourKits(), x -> x.item(3, index, isPart));
            }
            refuses(INDEX, Edges::busy, x -> x.item(2, 0, isPart));
        }
    }
}
