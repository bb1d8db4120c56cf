/** The sentences of the promises 29 to 36: movements, shares of service and reasons. */
final class MovementsSentences extends Edges {
    static void hold() {
        holdMovements();
        holdService();
        holdWeakestAndAverage();
        holdReason();
    }

    private static void holdMovements() {
        Sentences.under("Promise 29: movement");
        Sentences.noCase("Returns a movement of a part.");
        Sentences.hold("- `movement`: the number of the movement, 0 to 7", MovementsSentences::eachMovement);
        Sentences.noCase("Returns the number of pieces.");
        Sentences.hold("Throws `IndexOutOfBoundsException` if there is no such part",
            () -> wantsPart((x, part) -> x.movement(part, 0)));
        Sentences.hold("Throws `IllegalArgumentException` if movement is out of range",
            () -> allowsOnly(0, 7, ARGUMENT, Edges::busy, (x, movement) -> x.movement(1, movement)));
        Sentences.under("Promise 30: audit");
        Sentences.hold("Returns the number of parts whose movements do not add up: whose first stock plus what was received,"
            + " returned good and repaired, minus what was issued, is not the stock; or whose pieces returned broken, minus"
            + " those sent to repair, are not the broken ones; or whose pieces sent to repair, minus those repaired and"
            + " scrapped, are not those in repairs under way.", MovementsSentences::movementsAddUp);
        Sentences.noCase("Returns the number of parts.");
    }

    private static void holdService() {
        Sentences.under("Promise 31: service");
        Sentences.hold("Returns the share of the pieces that were requested of a part which were served at once, both"
            + " numbers converted to float.", MovementsSentences::shares);
        Sentences.noCase("Returns the share.");
        Sentences.hold("Throws `IndexOutOfBoundsException` if there is no such part", () -> wantsPart(SparePlanner::service));
        Sentences.hold("Throws `ArithmeticException` if no pieces of it were requested",
            () -> wantsRequests(SparePlanner::service));
        Sentences.under("Promise 32: serviceBits");
        Sentences.hold("Returns the bits of this share, as Float.floatToIntBits tells them.", MovementsSentences::bitsOfShares);
        Sentences.noCase("Returns the bits.");
        Sentences.hold("Throws `IndexOutOfBoundsException` if there is no such part",
            () -> wantsPart(SparePlanner::serviceBits));
        Sentences.hold("Throws `ArithmeticException` if no pieces of it were requested",
            () -> wantsRequests(SparePlanner::serviceBits));
    }

    private static void holdWeakestAndAverage() {
        Sentences.under("Promise 33: weakest");
        Sentences.hold("Returns the part with the least share of service; of several, the one with the lowest number.",
            MovementsSentences::leastShare);
        Sentences.noCase("Returns the part.");
        Sentences.hold("Throws `NoSuchElementException` if no pieces were requested",
            () -> wantsAnyRequest(ELEMENT, SparePlanner::weakest));
        Sentences.under("Promise 34: averageService");
        Sentences.hold("Returns the average of the shares of service of all parts of which pieces were requested: the sum of"
            + " the shares, in ascending order of the parts, each one converted to double, divided by their number as a"
            + " double.", MovementsSentences::averages);
        Sentences.noCase("Returns the average.");
        Sentences.hold("Throws `ArithmeticException` if there are no such parts",
            () -> wantsAnyRequest(ARITHMETIC, SparePlanner::averageService));
        Sentences.under("Promise 35: averageBits");
        Sentences.hold("Returns the bits of this average, as Double.doubleToLongBits tells them.",
            MovementsSentences::bitsOfAverages);
        Sentences.noCase("Returns the bits.");
        Sentences.hold("Throws `ArithmeticException` if there are no such parts",
            () -> wantsAnyRequest(ARITHMETIC, SparePlanner::averageBits));
    }

    private static void holdReason() {
        Sentences.under("Promise 36: reason");
        Sentences.hold("Returns the reason that was kept last.", MovementsSentences::theLastReason);
        Sentences.hold("- `what`: 0 for the reason, 1 for the part of the item that could not be served, 2 for how many"
            + " pieces were missing for it", MovementsSentences::numbersOfReasons);
        Sentences.noCase("Returns the number.");
        Sentences.hold("Throws `IllegalArgumentException` if what is not 0 to 2", () -> {
            allowsOnly(0, 2, ARGUMENT, Edges::busy, SparePlanner::reason);
            refuses(ARGUMENT, SparePlanner::new, x -> x.reason(-1));
            refuses(ARGUMENT, SparePlanner::new, x -> x.reason(3));
        });
        Sentences.hold("Throws `NoSuchElementException` if no reason was kept; or, with what 1 or 2, if the last one was not"
            + " 3", MovementsSentences::noSuchReason);
    }

    // ---- promises 29 and 30

    private static void movementsAre(Scene scene, int... due) {
        SparePlanner x = scene.get();
        for (int movement = 0; movement < 8; movement++) {
            due(x.movement(0, movement), due[movement]);
        }
    }

    /** One call after the other, each of which adds to one movement, or to two. */
    private static void eachMovement() {
        Scene scene = () -> {
            SparePlanner x = new SparePlanner();
            x.addPart(4, 1, 2, 50);
            return x;
        };
        movementsAre(scene, 4, 0, 0, 0, 0, 0, 0, 0);
        scene = scene.and(x -> x.giveBack(0, 999, true));
        movementsAre(scene, 4, 0, 999, 0, 0, 0, 0, 0);
        scene = scene.and(x -> x.giveBack(0, 7, false));
        movementsAre(scene, 4, 0, 999, 7, 0, 0, 0, 0);
        scene = scene.and(x -> x.send(0, 5));
        movementsAre(scene, 4, 0, 999, 7, 5, 0, 0, 0);
        scene = scene.and(x -> x.request(0, 999));
        movementsAre(scene, 4, 0, 999, 7, 5, 0, 0, 999);
        scene = scene.and(x -> x.advance(2));
        movementsAre(scene, 4, 0, 999, 7, 5, 2, 3, 999);
        scene = scene.and(x -> x.request(0, 7));
        movementsAre(scene, 4, 0, 999, 7, 5, 2, 3, 1005);
        scene = scene.and(x -> x.advance(1));
        movementsAre(scene, 4, 0, 999, 7, 5, 2, 3, 1005);
        scene = scene.and(x -> x.advance(1));
        movementsAre(scene, 4, 1, 999, 7, 5, 2, 3, 1006);
        movementsAre(scene.and(SparePlanner::undo), 4, 0, 999, 7, 5, 2, 3, 1005);
        movementsAre(scene.and(SparePlanner::clear).and(x -> x.addPart(0, 1, 1, 1)), 0, 0, 0, 0, 0, 0, 0, 0);
    }

    /** No call makes movements that do not add up; AuditTest breaks them from within. */
    private static void movementsAddUp() {
        due(new SparePlanner().audit(), 0);
        Scene[] scenes = {Edges::busy, eightParts(), fourKits(), waiting(12), repairs(12), orders(12)};
        for (Scene scene : scenes) {
            due(scene.get().audit(), 0);
            due(scene.and(x -> x.advance(30)).get().audit(), 0);
            due(scene.tried(x -> x.take(0)).tried(x -> x.request(0, 999)).get().audit(), 0);
            due(scene.and(x -> x.giveBack(1, 999, true)).tried(x -> x.cancel(0)).get().audit(), 0);
            due(scene.and(x -> x.giveBack(0, 999, false)).tried(x -> x.send(0, 999)).get().audit(), 0);
            due(scene.and(SparePlanner::undo).get().audit(), 0);
            due(scene.tried(SparePlanner::restore).get().audit(), 0);
            due(scene.and(SparePlanner::clear).get().audit(), 0);
        }
    }

    // ---- promises 31 and 32

    private static Scene share(int served, int requested) {
        return stocks(served).and(x -> x.request(0, requested));
    }

    private static void shares() {
        due(share(0, 1).get().service(0), 0f);
        due(share(0, 999).get().service(0), 0f);
        due(share(1, 1).get().service(0), 1f);
        due(share(999, 999).get().service(0), 1f);
        due(share(1, 999).get().service(0), 1f / 999f);
        due(share(998, 999).get().service(0), 998f / 999f);
        due(share(1, 3).get().service(0), 1f / 3f);
        Scene later = share(1, 3).and(x -> x.giveBack(0, 2, true));
        due(later.get().service(0), 1f / 3f);
        due(later.and(x -> x.request(0, 1)).get().service(0), 1f / 4f);
        due(share(1, 3).and(x -> x.cancel(0)).get().service(0), 1f / 3f);
        due(share(1, 3).tried(x -> x.request(0, 0)).get().service(0), 1f / 3f);
        due(share(1, 3).and(x -> x.request(0, 1)).and(SparePlanner::undo).get().service(0), 1f / 3f);
    }

    /** Part 0 is there, and no pieces of it were requested until the last call. */
    private static void wantsRequests(NumberedDeed deed) {
        Scene none = stocks(5, 5).and(x -> x.request(1, 1));
        refuses(ARITHMETIC, none, x -> deed.on(x, 0));
        answers(none, x -> deed.on(x, 1));
        refuses(ARITHMETIC, none.and(x -> x.request(0, 1)).and(SparePlanner::undo), x -> deed.on(x, 0));
        refuses(ARITHMETIC, none.and(x -> x.addKit(0, 0, 1)).and(x -> x.take(0)), x -> deed.on(x, 0));
        refuses(ARITHMETIC, none.and(x -> x.addSubstitute(1, 0)).and(x -> x.request(1, 9)), x -> deed.on(x, 0));
        refuses(ARITHMETIC, waiting(12).tried(x -> x.request(1, 6)), x -> deed.on(x, 1));
        refuses(ARITHMETIC, none.and(SparePlanner::clear).and(x -> x.addPart(5, 1, 1, 1)), x -> deed.on(x, 0));
        answers(none.and(x -> x.request(0, 1)), x -> deed.on(x, 0));
        answers(waiting(1).and(x -> x.cancel(0)), x -> deed.on(x, 0));
    }

    private static void bitsOfShares() {
        int[][] shares = {{0, 1}, {1, 1}, {1, 2}, {1, 3}, {2, 3}, {1, 999}, {998, 999}, {999, 999}, {0, 999}, {512, 999},
            {511, 512}, {1, 512}, {1, 511}, {3, 4}};
        for (int[] share : shares) {
            SparePlanner x = share(share[0], share[1]).get();
            due(x.serviceBits(0), Float.floatToIntBits((float) share[0] / (float) share[1]));
        }
        SparePlanner least = stocks(1).get();
        for (int i = 0; i < 170; i++) {
            least.request(0, 999);
            least.cancel(0);
        }
        due(least.serviceBits(0), Float.floatToIntBits(1f / 169830f));
    }

    // ---- promises 33 to 35

    private static Scene shares(int[]... shares) {
        return () -> {
            SparePlanner x = new SparePlanner();
            for (int[] share : shares) {
                x.addPart(share[0], 9, 1, 1);
            }
            for (int part = 0; part < shares.length; part++) {
                if (shares[part][1] > 0) {
                    x.request(part, shares[part][1]);
                }
            }
            return x;
        };
    }

    private static void leastShare() {
        due(shares(new int[] {1, 1}).get().weakest(), 0);
        due(shares(new int[] {9, 0}, new int[] {1, 1}).get().weakest(), 1);
        due(shares(new int[] {2, 3}, new int[] {1, 3}, new int[] {3, 3}).get().weakest(), 1);
        due(shares(new int[] {2, 3}, new int[] {1, 3}, new int[] {1, 3}).get().weakest(), 1);
        due(shares(new int[] {1, 3}, new int[] {2, 6}, new int[] {4, 12}).get().weakest(), 0);
        due(shares(new int[] {0, 999}, new int[] {0, 1}).get().weakest(), 0);
        due(shares(new int[] {1, 999}, new int[] {0, 1}).get().weakest(), 1);
        due(shares(new int[] {998, 999}, new int[] {997, 998}).get().weakest(), 1);
        due(eightParts().and(x -> x.request(7, 1)).get().weakest(), 7);
        due(eightParts().and(x -> x.request(7, 8)).and(x -> x.request(6, 1)).get().weakest(), 7);
    }

    private static void wantsAnyRequest(Class<?> type, Deed deed) {
        refuses(type, SparePlanner::new, deed);
        refuses(type, eightParts(), deed);
        refuses(type, cleared(), deed);
        refuses(type, stocks(1).and(x -> x.request(0, 1)).and(SparePlanner::undo), deed);
        refuses(type, fourKits().and(x -> x.take(0)), deed);
        refuses(type, stocks(1).tried(x -> x.request(0, 1000)), deed);
        answers(stocks(1).and(x -> x.request(0, 1)), deed);
        answers(eightParts().and(x -> x.request(7, 999)), deed);
    }

    private static final int[][] MANY = {{2, 3}, {9, 0}, {1, 7}, {0, 5}, {5, 5}, {1, 3}, {10, 11}, {998, 999}};

    private static double averageOfMany() {
        double sum = 0.0;
        for (int[] share : MANY) {
            sum += share[1] == 0 ? 0.0 : (double) ((float) share[0] / (float) share[1]);
        }
        return sum / 7.0;
    }

    private static void averages() {
        due(shares(new int[] {0, 1}).get().averageService(), 0.0);
        due(shares(new int[] {1, 1}).get().averageService(), 1.0);
        due(shares(new int[] {1, 3}).get().averageService(), (double) (1f / 3f));
        due(shares(new int[] {1, 1}, new int[] {0, 1}).get().averageService(), 0.5);
        due(shares(new int[] {1, 1}, new int[] {5, 0}).get().averageService(), 1.0);
        due(shares(MANY).get().averageService(), averageOfMany());
    }

    private static void bitsOfAverages() {
        due(shares(new int[] {0, 1}).get().averageBits(), 0L);
        due(shares(new int[] {1, 1}).get().averageBits(), Double.doubleToLongBits(1.0));
        due(shares(new int[] {1, 3}).get().averageBits(), Double.doubleToLongBits(1f / 3f));
        due(shares(new int[] {1, 999}, new int[] {0, 1}).get().averageBits(), Double.doubleToLongBits((1f / 999f) / 2.0));
        due(shares(new int[] {1, 1}, new int[] {998, 999}).get().averageBits(),
            Double.doubleToLongBits((1.0 + (double) (998f / 999f)) / 2.0));
        due(shares(MANY).get().averageBits(), Double.doubleToLongBits(averageOfMany()));
    }

    // ---- promise 36

    private static void theLastReason() {
        SparePlanner x = repairs(12).get();
        x.addKit(0, 0, 2);
        Check.outcome(() -> x.take(0));
        due(x.reason(0), 3);
        Check.outcome(() -> x.send(0, 9));
        due(x.reason(0), 2);
        Check.outcome(() -> x.send(0, 8));
        due(x.reason(0), 1);
        due(Check.read(x, "g0*1;k0;"), UNSUPPORTED.getSimpleName());
        due(x.reason(0), 3);
        due(x.reason(2), 1);
        x.giveBack(0, 2, true);
        x.take(0);
        due(x.reason(0), 3);
        x.undo();
        x.save();
        x.clear();
        x.restore();
        due(x.reason(0), 3);
    }

    private static void numbersOfReasons() {
        Scene scene = stocks(0, 0, 0, 0, 0, 0, 0, 0).and(x -> x.addKit(0, 7, 9)).and(x -> x.addKit(1, 0, 1));
        SparePlanner x = scene.tried(y -> y.take(0)).get();
        due(x.reason(0), 3);
        due(x.reason(1), 7);
        due(x.reason(2), 9);
        Check.outcome(() -> x.take(1));
        due(x.reason(1), 0);
        due(x.reason(2), 1);
    }

    private static void noSuchReason() {
        for (int what = 0; what < 3; what++) {
            int asked = what;
            refuses(ELEMENT, SparePlanner::new, x -> x.reason(asked));
            refuses(ELEMENT, stocks(1).tried(x -> x.send(0, 0)), x -> x.reason(asked));
        }
        Scene[] scenes = {waiting(12).tried(x -> x.request(0, 1)), repairs(12).tried(x -> x.send(0, 1)),
            repairs(0).tried(x -> x.send(0, 21)), ((Scene) Edges::busy).tried(x -> x.send(0, 5))};
        for (Scene scene : scenes) {
            answers(scene, x -> x.reason(0));
            refuses(ELEMENT, scene, x -> x.reason(1));
            refuses(ELEMENT, scene, x -> x.reason(2));
        }
        answers(Edges::busy, x -> x.reason(1));
        answers(Edges::busy, x -> x.reason(2));
    }
}
