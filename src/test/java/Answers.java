import java.util.Map;
import java.util.TreeMap;
import java.util.function.Supplier;

/**
 * All that a planner answers to questions, as texts, so that two states can be compared. Only what
 * is there is asked for, so that the questions and what was done before stay below 512 calls.
 */
final class Answers {
    private Answers() {
    }

    /** What the history remembers: parts, kits, requests, repairs, orders, the day and counts. */
    static String ofWorld(SparePlanner x) {
        StringBuilder all = new StringBuilder();
        for (int what = 0; what < 8; what++) {
            int asked = what;
            add(all, () -> x.count(asked));
        }
        for (int part = 0; part < x.count(0); part++) {
            addPart(all, x, part);
        }
        for (int kit = 0; kit < x.count(1); kit++) {
            addKit(all, x, kit);
        }
        addRows(all, "waiting", x.count(2), 5, x::waiting);
        addRows(all, "repair", x.count(3), 3, x::repair);
        addRows(all, "order", x.count(4), 3, x::order);
        add(all, x::audit);
        add(all, x::weakest);
        add(all, x::averageService);
        add(all, x::averageBits);
        return all.toString();
    }

    /** What it does not remember, but for the input, which nothing tells. */
    static String ofRest(SparePlanner x) {
        return Check.outcome(x::errorPosition) + ' ' + Check.outcome(x::refused) + ofReason(x) + ofShelves(x);
    }

    private static String ofReason(SparePlanner x) {
        StringBuilder all = new StringBuilder();
        for (int what = 0; what < 3; what++) {
            int asked = what;
            add(all, () -> x.reason(asked));
        }
        return all.toString();
    }

    private static String ofShelves(SparePlanner x) {
        StringBuilder all = new StringBuilder();
        for (int place = 0; place < 6; place++) {
            for (int what = 0; what < 4; what++) {
                int shelf = place / 3;
                int index = place % 3;
                int asked = what;
                add(all, () -> x.sampled(shelf, index, asked));
            }
        }
        return all.toString();
    }

    /**
     * The whole state, by the names of its pieces: also what is told only by undo, restore and read,
     * each of which is called on a planner of its own, made for it.
     */
    static Map<String, String> ofAll(Supplier<SparePlanner> made) {
        Map<String, String> all = new TreeMap<>();
        SparePlanner x = made.get();
        all.put("world", ofWorld(x));
        all.put("error position", Check.outcome(x::errorPosition));
        all.put("refused entry", Check.outcome(x::refused));
        all.put("reason", ofReason(x));
        all.put("shelves", ofShelves(x));
        all.put("input", ofInput(made.get()));
        all.put("saved", ofSaved(made.get()));
        all.put("history", ofHistory(made));
        return all;
    }

    /** A semicolon makes a text of many inputs, so that what they hold shows in what is read. */
    private static String ofInput(SparePlanner x) {
        return Check.outcome(() -> x.append(';')) + ' ' + Check.outcome(x::read) + ' '
            + Check.outcome(x::errorPosition) + ' ' + Check.outcome(x::refused) + ofWorld(x);
    }

    private static String ofSaved(SparePlanner x) {
        return Check.outcome(x::restore) + ofWorld(x);
    }

    private static String ofHistory(Supplier<SparePlanner> made) {
        StringBuilder all = new StringBuilder();
        String answer = "";
        for (int changes = 1; !answer.equals("NoSuchElementException"); changes++) {
            SparePlanner x = made.get();
            for (int i = 0; i < changes; i++) {
                answer = Check.outcome(x::undo);
            }
            all.append("\nundo ").append(answer).append(ofWorld(x));
        }
        return all.toString();
    }

    private static void addPart(StringBuilder all, SparePlanner x, int part) {
        all.append("\npart ").append(part).append(':');
        for (int what = 0; what < 10; what++) {
            int asked = what;
            add(all, () -> x.part(part, asked));
        }
        for (int movement = 0; movement < 8; movement++) {
            int asked = movement;
            add(all, () -> x.movement(part, asked));
        }
        for (int index = 0; index < x.part(part, 9); index++) {
            int asked = index;
            add(all, () -> x.substitute(part, asked));
        }
        add(all, () -> x.available(part));
        add(all, () -> x.wanted(part));
        add(all, () -> x.stockAfter(part, 5));
        add(all, () -> x.service(part));
        add(all, () -> x.serviceBits(part));
    }

    private static void addKit(StringBuilder all, SparePlanner x, int kit) {
        all.append("\nkit ").append(kit).append(':');
        for (int index = 0; !Check.outcome(itemOf(x, kit, index, true)).endsWith("Exception"); index++) {
            add(all, itemOf(x, kit, index, true));
            add(all, itemOf(x, kit, index, false));
        }
        add(all, () -> x.possible(kit));
        add(all, () -> x.lacking(kit));
    }

    private static Check.Call itemOf(SparePlanner x, int kit, int index, boolean isPart) {
        return () -> x.item(kit, index, isPart);
    }

    private interface Row {
        int number(int index, int what);
    }

    private static void addRows(StringBuilder all, String name, int rows, int numbers, Row row) {
        for (int index = 0; index < rows; index++) {
            all.append('\n').append(name).append(' ').append(index).append(':');
            for (int what = 0; what < numbers; what++) {
                int asked = index;
                int number = what;
                add(all, () -> row.number(asked, number));
            }
        }
    }

    private static void add(StringBuilder all, Check.Call call) {
        all.append(' ').append(Check.outcome(call));
    }
}
