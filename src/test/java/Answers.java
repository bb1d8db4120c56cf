/** All that a planner answers to questions, as one text, so that two states can be compared. */
final class Answers {
    private static final int TOO_FAR = 13;

    private Answers() {
    }

    /** What the history remembers: parts, kits, requests, repairs, orders, the day and counts. */
    static String ofWorld(SparePlanner x) {
        StringBuilder all = new StringBuilder();
        for (int what = 0; what < 8; what++) {
            int asked = what;
            add(all, () -> x.count(asked));
        }
        for (int part = 0; part < x.count(0); part++) {
            addPart(all, x, part);
        }
        for (int kit = 0; kit < x.count(1); kit++) {
            addKit(all, x, kit);
        }
        for (int index = 0; index < TOO_FAR; index++) {
            addRows(all, x, index);
        }
        add(all, x::audit);
        add(all, x::weakest);
        add(all, x::averageService);
        add(all, x::averageBits);
        return all.toString();
    }

    /** What it does not remember, but for the input, which nothing tells. */
    static String ofRest(SparePlanner x) {
        StringBuilder all = new StringBuilder();
        add(all, x::errorPosition);
        add(all, x::refused);
        for (int what = 0; what < 3; what++) {
            int asked = what;
            add(all, () -> x.reason(asked));
        }
        for (int place = 0; place < 6; place++) {
            for (int what = 0; what < 4; what++) {
                int shelf = place / 3;
                int index = place % 3;
                int asked = what;
                add(all, () -> x.sampled(shelf, index, asked));
            }
        }
        return all.toString();
    }

    private static void addPart(StringBuilder all, SparePlanner x, int part) {
        all.append("\npart ").append(part).append(':');
        for (int what = 0; what < 10; what++) {
            int asked = what;
            add(all, () -> x.part(part, asked));
        }
        for (int movement = 0; movement < 8; movement++) {
            int asked = movement;
            add(all, () -> x.movement(part, asked));
        }
        for (int index = 0; index < 4; index++) {
            int asked = index;
            add(all, () -> x.substitute(part, asked));
        }
        add(all, () -> x.available(part));
        add(all, () -> x.wanted(part));
        add(all, () -> x.stockAfter(part, 5));
        add(all, () -> x.service(part));
        add(all, () -> x.serviceBits(part));
    }

    private static void addKit(StringBuilder all, SparePlanner x, int kit) {
        all.append("\nkit ").append(kit).append(':');
        for (int index = 0; index < 4; index++) {
            int asked = index;
            add(all, () -> x.item(kit, asked, true));
            add(all, () -> x.item(kit, asked, false));
        }
        add(all, () -> x.possible(kit));
        add(all, () -> x.lacking(kit));
    }

    private static void addRows(StringBuilder all, SparePlanner x, int index) {
        all.append("\nrow ").append(index).append(':');
        for (int what = 0; what < 5; what++) {
            int asked = what;
            add(all, () -> x.waiting(index, asked));
        }
        for (int what = 0; what < 3; what++) {
            int asked = what;
            add(all, () -> x.repair(index, asked));
            add(all, () -> x.order(index, asked));
        }
    }

    private static void add(StringBuilder all, Check.Call call) {
        all.append(' ').append(Check.outcome(call));
    }
}
