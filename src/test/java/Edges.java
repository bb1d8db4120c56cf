import java.util.Map;
import java.util.NoSuchElementException;
import java.util.Set;
import java.util.function.Supplier;

/** What the tests of the sentences share: planners as they stand before a call, and the ways to look at the call. */
abstract class Edges {
    static final Class<?> INDEX = IndexOutOfBoundsException.class;
    static final Class<?> ARGUMENT = IllegalArgumentException.class;
    static final Class<?> STATE = IllegalStateException.class;
    static final Class<?> UNSUPPORTED = UnsupportedOperationException.class;
    static final Class<?> ARITHMETIC = ArithmeticException.class;
    static final Class<?> ELEMENT = NoSuchElementException.class;

    /** A planner on which the same calls were made each time, so that a call can be looked at with and without it. */
    interface Scene extends Supplier<SparePlanner> {
        default Scene and(Deed deed) {
            return () -> {
                SparePlanner x = get();
                deed.on(x);
                return x;
            };
        }

        /** As and, for a call that may be refused. */
        default Scene tried(Deed deed) {
            return and(x -> Check.outcome(() -> deed.on(x)));
        }
    }

    interface Deed {
        Object on(SparePlanner x);
    }

    interface NumberedDeed {
        Object on(SparePlanner x, int number);
    }

    // ---- what is due

    static <T> void due(T got, T due) {
        Check.same(got.equals(due) ? "" : Sentences.place() + " at " + line(), got, due);
    }

    private static String line() {
        StackTraceElement[] calls = new Throwable().getStackTrace();
        for (StackTraceElement call : calls) {
            if (call.getClassName().endsWith("Sentences")) {
                return call.getFileName() + ":" + call.getLineNumber();
            }
        }
        return "?";
    }

    /** The call throws exactly this, and the whole state stays as it was, also what only undo, restore and read tell. */
    static void refuses(Class<?> type, Scene scene, Deed deed) {
        refusesButKeeps(type, scene, deed);
    }

    /** As refuses, but for the pieces of the state that the document names; answers a planner behind the call. */
    static SparePlanner refusesButKeeps(Class<?> type, Scene scene, Deed deed, String... pieces) {
        SparePlanner x = scene.get();
        due(Check.outcome(() -> deed.on(x)), type.getSimpleName());
        staysButFor(Set.of(pieces), scene, deed);
        return x;
    }

    /** The call answers this and changes nothing at all. */
    static void onlyAnswers(Object answer, Scene scene, Deed deed) {
        SparePlanner x = scene.get();
        due(Check.outcome(() -> deed.on(x)), String.valueOf(answer));
        staysButFor(Set.of(), scene, deed);
    }

    private static void staysButFor(Set<String> pieces, Scene scene, Deed deed) {
        Map<String, String> before = Answers.ofAll(scene);
        Map<String, String> behind = Answers.ofAll(scene.tried(deed));
        before.forEach((piece, answers) -> {
            if (!pieces.contains(piece)) {
                due(piece + ": " + behind.get(piece), piece + ": " + answers);
            }
        });
    }

    /** The two planners can't be told apart. */
    static void alike(Scene one, Scene other) {
        due(Answers.ofAll(one), Answers.ofAll(other));
    }

    /** The call answers without an exception. */
    static void answers(Scene scene, Deed deed) {
        due(Check.outcome(() -> deed.on(scene.get())).endsWith("Exception"), false);
    }

    /** Both ends of a range are allowed, the numbers beside them and the ends of int are not. */
    static void allowsOnly(int least, int greatest, Class<?> type, Scene scene, NumberedDeed deed) {
        answers(scene, x -> deed.on(x, least));
        answers(scene, x -> deed.on(x, greatest));
        for (int wrong : new int[] {least - 1, greatest + 1, Integer.MIN_VALUE, Integer.MAX_VALUE}) {
            refuses(type, scene, x -> deed.on(x, wrong));
        }
    }

    /** Busy planners have the parts 0 to 2; an empty one has none, nor has one that was cleared. */
    static void wantsPart(NumberedDeed deed) {
        for (int wrong : new int[] {3, -1, 8, Integer.MIN_VALUE, Integer.MAX_VALUE}) {
            refuses(INDEX, Edges::busy, x -> deed.on(x, wrong));
        }
        refuses(INDEX, SparePlanner::new, x -> deed.on(x, 0));
        refuses(INDEX, cleared(), x -> deed.on(x, 0));
        refuses(INDEX, addedAndUndone(), x -> deed.on(x, 3));
        for (int right = 0; right < 3; right++) {
            int part = right;
            SparePlanner x = busy();
            due(Check.outcome(() -> deed.on(x, part)).equals(INDEX.getSimpleName()), false);
        }
        refuses(INDEX, eightParts(), x -> deed.on(x, 8));
        SparePlanner y = eightParts().get();
        due(Check.outcome(() -> deed.on(y, 7)).equals(INDEX.getSimpleName()), false);
    }

    /** Busy planners have the kits 0 and 1; others have four kits. */
    static void wantsKit(NumberedDeed deed) {
        for (int wrong : new int[] {2, -1, 4, Integer.MIN_VALUE, Integer.MAX_VALUE}) {
            refuses(INDEX, Edges::busy, x -> deed.on(x, wrong));
        }
        refuses(INDEX, stocks(5), x -> deed.on(x, 0));
        refuses(INDEX, cleared(), x -> deed.on(x, 0));
        refuses(INDEX, fourKits(), x -> deed.on(x, 4));
        for (int right = 0; right < 4; right++) {
            int kit = right;
            SparePlanner x = fourKits().get();
            due(Check.outcome(() -> deed.on(x, kit)).equals(INDEX.getSimpleName()), false);
        }
    }

    // ---- planners as they stand before a call

    /** Parts with these stocks, no bounds, the yield 100, repairs of one day, and orders that come late. */
    static Scene stocks(int... stocks) {
        return () -> {
            SparePlanner x = new SparePlanner();
            for (int stock : stocks) {
                x.addPart(stock, 9, 1, 100);
            }
            return x;
        };
    }

    /** Something of each kind: 3 parts, 2 kits, waiting requests, a repair, an order, samples, reasons, texts, history. */
    static SparePlanner busy() {
        SparePlanner x = new SparePlanner();
        x.addPart(5, 2, 3, 50);
        x.addPart(0, 2, 1, 100);
        x.addPart(9, 4, 2, 30);
        x.addSubstitute(0, 2);
        x.addSubstitute(2, 0);
        x.setBounds(0, 3, 9);
        x.addKit(0, 0, 2);
        x.addKit(0, 2, 1);
        x.addKit(1, 1, 9);
        x.request(1, 4);
        x.giveBack(0, 7, false);
        x.save();
        x.send(0, 3);
        x.advance(1);
        x.request(1, 2);
        Check.read(x, "d1;k1;");
        Check.read(x, "r0*x");
        x.sample(0, 1, 1);
        x.sample(1, 0, 2);
        Check.append(x, "d1;g1*7");
        return x;
    }

    static Scene cleared() {
        return ((Scene) Edges::busy).and(SparePlanner::clear);
    }

    private static Scene addedAndUndone() {
        return ((Scene) Edges::busy).and(x -> x.addPart(1, 1, 1, 1)).and(SparePlanner::undo);
    }

    static Scene eightParts() {
        return stocks(0, 1, 2, 3, 4, 5, 6, 7);
    }

    /** Part 0 with the four substitutes 1 to 4, and part 5. */
    static Scene fourSubstitutes() {
        return () -> {
            SparePlanner x = stocks(1, 2, 3, 4, 5, 6).get();
            for (int other = 1; other <= 4; other++) {
                x.addSubstitute(0, other);
            }
            return x;
        };
    }

    /** Five parts and four kits: kit 0 has the parts 0 to 3, the others have part 0 alone. */
    static Scene fourKits() {
        return () -> {
            SparePlanner x = stocks(9, 9, 9, 9, 9).get();
            for (int part = 0; part < 4; part++) {
                x.addKit(0, part, 2);
            }
            for (int kit = 1; kit < 4; kit++) {
                x.addKit(kit, 0, 1);
            }
            return x;
        };
    }

    /** Part 0 has no stock and the first waiting requests, each of one piece; part 1 has 5 pieces. */
    static Scene waiting(int requests) {
        return () -> {
            SparePlanner x = stocks(0, 5).get();
            for (int i = 0; i < requests; i++) {
                x.request(0, 1);
            }
            return x;
        };
    }

    /** Part 0 has 20 broken pieces less those in these repairs, each of one piece, which end on day 9; part 1 has 7. */
    static Scene repairs(int repairs) {
        return () -> {
            SparePlanner x = new SparePlanner();
            x.addPart(0, 9, 9, 100);
            x.addPart(0, 9, 9, 100);
            x.giveBack(0, 20, false);
            x.giveBack(1, 7, false);
            for (int i = 0; i < repairs; i++) {
                x.send(0, 1);
            }
            return x;
        };
    }

    /** Day 2 with so many orders under way, from 8 to 12: one of each part, then one more of the first parts. */
    static Scene orders(int orders) {
        return () -> {
            SparePlanner x = stocks(0, 0, 0, 0, 0, 0, 0, 0).get();
            for (int part = 0; part < 8; part++) {
                x.setBounds(part, 1, 1);
            }
            x.advance(1);
            for (int part = 0; part < orders - 8; part++) {
                x.setBounds(part, 2, 2);
            }
            x.advance(1);
            return x;
        };
    }

    /** A busy planner whose input holds these characters, and no others. */
    static Scene input(String characters) {
        return () -> {
            SparePlanner x = busy();
            Check.outcome(x::read);
            Check.append(x, characters);
            return x;
        };
    }

    static void stocksAre(SparePlanner x, int... stocks) {
        for (int part = 0; part < stocks.length; part++) {
            due(x.part(part, 0), stocks[part]);
        }
    }
}
