import java.util.NoSuchElementException;

/** Promises 1 to 13: the new object, parts, substitutes and kits, and what is asked of them. */
final class PartsTest {
    private static final Class<?> INDEX = IndexOutOfBoundsException.class;
    private static final Class<?> ARGUMENT = IllegalArgumentException.class;
    private static final Class<?> STATE = IllegalStateException.class;
    private static final Class<?> ELEMENT = NoSuchElementException.class;

    public static void main(String[] args) {
        aNewObjectIsEmpty();
        clearRemovesParts();
        clearLeavesTheRest();
        partsBehindClearBeginAnew();
        partsAreAdded();
        partsAreRefused();
        boundsAreSet();
        yieldsAreSet();
        substitutesAreAdded();
        substitutesAreRefused();
        substitutesAreRemoved();
        kitsAreAdded();
        kitsAreRefused();
        countsAreTold();
        numbersOfPartsAreTold();
        substitutesAreTold();
        relationsAreTold();
        itemsAreTold();
        Check.end("PartsTest");
    }

    private static void aNewObjectIsEmpty() {
        Recorded x = new Recorded();
        for (int what = 0; what < 8; what++) {
            Check.due("count(" + what + ") of a new object", x.count(what), 0);
        }
        Check.due("audit of a new object", x.audit(), 0);
        Check.refuses(x, "part 0 of a new object", INDEX, () -> x.part(0, 0));
        Check.refuses(x, "kit 0 of a new object", INDEX, () -> x.item(0, 0, true));
        Check.refuses(x, "undo of a new object", ELEMENT, x::undo);
        Check.refuses(x, "restore of a new object", STATE, x::restore);
        Check.refuses(x, "errorPosition of a new object", ELEMENT, x::errorPosition);
        Check.refuses(x, "refused of a new object", ELEMENT, x::refused);
        Check.refuses(x, "reason of a new object", ELEMENT, () -> x.reason(0));
        for (int place = 0; place < 6; place++) {
            int shelf = place / 3;
            int index = place % 3;
            Check.refuses(x, "place " + place + " of a new object", ELEMENT, () -> x.sampled(shelf, index, 0));
        }
        Check.due("the input of a new object is empty", x.append('r'), 1);
    }

    private static void clearRemovesParts() {
        Recorded x = new Recorded();
        Check.due("clear of nothing", x.clear(), 0);
        fill(x);
        Check.due("clear", x.clear(), 2);
        Check.same("all answers behind clear", Answers.ofWorld(x.again()), Answers.ofWorld(new SparePlanner()));
        Check.refuses(x, "undo behind clear", ELEMENT, x::undo);
        Check.due("a part behind clear", x.addPart(7, 1, 1, 0), 0);
        for (int movement = 1; movement < 8; movement++) {
            Check.due("movement " + movement + " behind clear", x.movement(0, movement), 0);
        }
        for (int what : new int[] {1, 2, 3, 6, 8, 9}) {
            Check.due("part(0, " + what + ") behind clear", x.part(0, what), 0);
        }
        Check.refuses(x, "service behind clear", ArithmeticException.class, () -> x.service(0));
        x.request(0, 8);
        Check.due("the first number behind clear", x.waiting(0, 0), 0);
        Check.due("a kit behind clear", x.addKit(0, 0, 1), 1);
        Check.refuses(x, "item 1 of a kit behind clear", INDEX, () -> x.item(0, 1, true));
    }

    /** Two parts, a kit, a waiting request, a repair and an order, on day 1. */
    private static void fill(Recorded x) {
        x.addPart(2, 3, 3, 50);
        x.addPart(0, 1, 1, 100);
        x.addSubstitute(0, 1);
        x.setBounds(0, 3, 9);
        x.addKit(0, 1, 2);
        x.addKit(0, 0, 2);
        x.request(0, 6);
        x.giveBack(0, 5, false);
        x.send(0, 3);
        x.advance(1);
    }

    private static void clearLeavesTheRest() {
        Recorded x = new Recorded();
        fill(x);
        x.sample(1, 2, 0);
        Check.read(x, "x");
        Check.read(x, "d1;k0;");
        x.save();
        Check.append(x, "d1");
        String rest = Answers.ofRest(x.again());
        String world = Answers.ofWorld(x.again());
        x.clear();
        Check.same("shelves, error position, refused entry and reasons behind clear", Answers.ofRest(x.again()), rest);
        Check.due("reason behind clear", x.reason(0), 3);
        Check.due("errorPosition behind clear", x.errorPosition(), 0);
        Check.due("refused behind clear", x.refused(), 1);
        Check.due("the input behind clear", x.append(';'), 3);
        Check.due("read behind clear", x.read(), 1);
        Check.due("restore behind clear", x.restore(), 2);
        Check.same("all answers behind restore", Answers.ofWorld(x.again()), world);
    }

    private static void partsBehindClearBeginAnew() {
        Recorded x = new Recorded();
        for (int part = 0; part < 3; part++) {
            x.addPart(7, 1, 1, 50);
            x.request(part, 5);
            x.giveBack(part, 9, false);
            x.send(part, 3);
        }
        x.addSubstitute(0, 1);
        x.advance(1);
        Check.due("a sum of hundredths", x.part(0, 8), 50);
        x.clear();
        x.addPart(4, 2, 3, 60);
        int[] due = {4, 0, 0, 0, 2, 3, 60, 4, 0, 0};
        for (int what = 0; what < 10; what++) {
            Check.due("part(0, " + what + ") behind clear", x.part(0, what), due[what]);
        }
        x.request(0, 8);
        Check.same("the share of a new part", x.service(0), 4f / 8f);
        Check.same("the average of new parts", x.averageService(), 0.5);
        Check.due("the weakest of new parts", x.weakest(), 0);
    }

    private static void partsAreAdded() {
        Recorded x = new Recorded();
        for (int part = 0; part < 8; part++) {
            Check.due("addPart", x.addPart(10 * part, part + 1, 9 - part, 5 * part), part);
        }
        for (int part = 0; part < 8; part++) {
            Check.due("the stock", x.part(part, 0), 10 * part);
            Check.due("the lead of orders", x.part(part, 4), part + 1);
            Check.due("the lead of repairs", x.part(part, 5), 9 - part);
            Check.due("the yield", x.part(part, 6), 5 * part);
            Check.due("the first stock", x.movement(part, 0), 10 * part);
            for (int what : new int[] {1, 2, 3, 8, 9}) {
                Check.due("part(.., " + what + ") at first", x.part(part, what), 0);
            }
        }
        Recorded edges = new Recorded();
        Check.due("the least numbers", edges.addPart(0, 1, 1, 0), 0);
        Check.due("the greatest numbers", edges.addPart(999, 9, 9, 100), 1);
        Check.due("the greatest stock", edges.part(1, 0), 999);
    }

    private static void partsAreRefused() {
        Recorded x = new Recorded();
        for (int full = 0; full < 2; full++) {
            Check.refuses(x, "stock -1", ARGUMENT, () -> x.addPart(-1, 1, 1, 1));
            Check.refuses(x, "stock 1000", ARGUMENT, () -> x.addPart(1000, 1, 1, 1));
            Check.refuses(x, "lead of orders 0", ARGUMENT, () -> x.addPart(1, 0, 1, 1));
            Check.refuses(x, "lead of orders 10", ARGUMENT, () -> x.addPart(1, 10, 1, 1));
            Check.refuses(x, "lead of repairs 0", ARGUMENT, () -> x.addPart(1, 1, 0, 1));
            Check.refuses(x, "lead of repairs 10", ARGUMENT, () -> x.addPart(1, 1, 10, 1));
            Check.refuses(x, "yield -1", ARGUMENT, () -> x.addPart(1, 1, 1, -1));
            Check.refuses(x, "yield 101", ARGUMENT, () -> x.addPart(1, 1, 1, 101));
            if (full == 0) {
                for (int part = 0; part < 8; part++) {
                    x.addPart(part, 1, 1, 1);
                }
            }
        }
        Check.refuses(x, "a ninth part", STATE, () -> x.addPart(1, 1, 1, 1));
    }

    private static void boundsAreSet() {
        Recorded x = new Recorded();
        x.addPart(5, 1, 1, 1);
        x.addPart(5, 1, 1, 1);
        Check.due("setBounds at first", x.setBounds(1, 3, 8), 0);
        Check.due("setBounds again", x.setBounds(1, 0, 999), 3);
        Check.due("setBounds to equal ones", x.setBounds(1, 999, 999), 0);
        Check.due("the lower bound", x.part(1, 2), 999);
        Check.due("the upper bound", x.part(1, 3), 999);
        Check.due("the lower bound of another part", x.part(0, 2), 0);
        Check.due("the upper bound of another part", x.part(0, 3), 0);
        Check.refuses(x, "bounds of part 2 of 2", INDEX, () -> x.setBounds(2, -1, 1000));
        Check.refuses(x, "bounds of part -1", INDEX, () -> x.setBounds(-1, 0, 0));
        Check.refuses(x, "lower bound -1", ARGUMENT, () -> x.setBounds(0, -1, 5));
        Check.refuses(x, "upper bound -1", ARGUMENT, () -> x.setBounds(0, 0, -1));
        Check.refuses(x, "both bounds -1", ARGUMENT, () -> x.setBounds(0, -1, -1));
        Check.refuses(x, "upper bound 1000", ARGUMENT, () -> x.setBounds(0, 5, 1000));
        Check.refuses(x, "both bounds 1000", ARGUMENT, () -> x.setBounds(0, 1000, 1000));
        Check.refuses(x, "lower bound above the upper one", ARGUMENT, () -> x.setBounds(0, 6, 5));
    }

    private static void yieldsAreSet() {
        Recorded x = new Recorded();
        x.addPart(5, 1, 1, 40);
        x.addPart(5, 1, 1, 60);
        Check.due("setYield", x.setYield(0, 100), 40);
        Check.due("setYield again", x.setYield(0, 0), 100);
        Check.due("the yield", x.part(0, 6), 0);
        Check.due("the yield of another part", x.part(1, 6), 60);
        Check.refuses(x, "yield of part 2 of 2", INDEX, () -> x.setYield(2, 101));
        Check.refuses(x, "yield of part -1", INDEX, () -> x.setYield(-1, 0));
        Check.refuses(x, "yield 101", ARGUMENT, () -> x.setYield(0, 101));
        Check.refuses(x, "yield -1", ARGUMENT, () -> x.setYield(0, -1));
    }

    private static Recorded withParts(int parts) {
        Recorded x = new Recorded();
        for (int part = 0; part < parts; part++) {
            x.addPart(part, 1, 1, 100);
        }
        return x;
    }

    private static void substitutesAreAdded() {
        Recorded x = withParts(8);
        int[] others = {5, 2, 7, 0};
        for (int i = 0; i < 4; i++) {
            Check.due("addSubstitute", x.addSubstitute(3, others[i]), i + 1);
        }
        for (int i = 0; i < 4; i++) {
            Check.due("the order of substitutes", x.substitute(3, i), others[i]);
        }
        Check.due("the number of substitutes", x.part(3, 9), 4);
        Check.due("the number of the other one's", x.part(5, 9), 0);
        Check.due("the other way", x.addSubstitute(5, 3), 1);
    }

    private static void substitutesAreRefused() {
        Recorded x = withParts(6);
        Check.refuses(x, "a substitute of part 6 of 6", INDEX, () -> x.addSubstitute(6, 6));
        Check.refuses(x, "a substitute of part -1", INDEX, () -> x.addSubstitute(-1, 0));
        Check.refuses(x, "part 6 of 6 as a substitute", INDEX, () -> x.addSubstitute(0, 6));
        Check.refuses(x, "part -1 as a substitute", INDEX, () -> x.addSubstitute(0, -1));
        x.addSubstitute(0, 1);
        Check.refuses(x, "a substitute twice", STATE, () -> x.addSubstitute(0, 1));
        Check.refuses(x, "a part as its own substitute", ARGUMENT, () -> x.addSubstitute(0, 0));
        x.addSubstitute(0, 2);
        x.addSubstitute(0, 3);
        x.addSubstitute(0, 4);
        Check.refuses(x, "a fifth substitute", STATE, () -> x.addSubstitute(0, 5));
        Check.refuses(x, "a fifth one that is the part", ARGUMENT, () -> x.addSubstitute(0, 0));
    }

    private static void substitutesAreRemoved() {
        Recorded x = withParts(6);
        for (int other = 1; other < 5; other++) {
            x.addSubstitute(0, other);
        }
        Check.due("removeSubstitute", x.removeSubstitute(0, 2), 3);
        Check.due("the first one that stays", x.substitute(0, 0), 1);
        Check.due("the second one that stays", x.substitute(0, 1), 3);
        Check.due("the third one that stays", x.substitute(0, 2), 4);
        Check.refuses(x, "one that is removed", ELEMENT, () -> x.removeSubstitute(0, 2));
        Check.refuses(x, "the part itself", ELEMENT, () -> x.removeSubstitute(0, 0));
        Check.refuses(x, "the other way", ELEMENT, () -> x.removeSubstitute(1, 0));
        Check.refuses(x, "of part 6 of 6", INDEX, () -> x.removeSubstitute(6, 1));
        Check.refuses(x, "of part -1", INDEX, () -> x.removeSubstitute(-1, 1));
        Check.refuses(x, "part 6 of 6", INDEX, () -> x.removeSubstitute(0, 6));
        Check.refuses(x, "part -1", INDEX, () -> x.removeSubstitute(0, -1));
        Check.due("again behind the others", x.addSubstitute(0, 2), 4);
        Check.due("its place", x.substitute(0, 3), 2);
        x.removeSubstitute(0, 1);
        x.removeSubstitute(0, 2);
        x.removeSubstitute(0, 4);
        Check.due("the last one", x.removeSubstitute(0, 3), 0);
    }

    private static void kitsAreAdded() {
        Recorded x = withParts(5);
        for (int kit = 0; kit < 4; kit++) {
            Check.due("a new kit", x.addKit(kit, kit, 9 - kit), 1);
            Check.due("the number of kits", x.count(1), kit + 1);
        }
        Check.due("a second item", x.addKit(2, 4, 1), 2);
        Check.due("a third item", x.addKit(2, 0, 9), 3);
        Check.due("a fourth item", x.addKit(2, 1, 5), 4);
        Check.due("the kits stay four", x.count(1), 4);
        int[] parts = {2, 4, 0, 1};
        int[] quantities = {7, 1, 9, 5};
        for (int i = 0; i < 4; i++) {
            Check.due("the part of an item", x.item(2, i, true), parts[i]);
            Check.due("the quantity of an item", x.item(2, i, false), quantities[i]);
        }
        Check.due("items of another kit", x.item(3, 0, true), 3);
    }

    private static void kitsAreRefused() {
        Recorded x = withParts(5);
        Check.refuses(x, "kit 1 of none", INDEX, () -> x.addKit(1, 0, 10));
        Check.refuses(x, "kit -1", INDEX, () -> x.addKit(-1, 0, 1));
        Check.refuses(x, "an item of part 5 of 5", INDEX, () -> x.addKit(0, 5, 10));
        Check.refuses(x, "an item of part -1", INDEX, () -> x.addKit(0, -1, 1));
        Check.refuses(x, "quantity 0", ARGUMENT, () -> x.addKit(0, 0, 0));
        Check.refuses(x, "quantity 10", ARGUMENT, () -> x.addKit(0, 0, 10));
        for (int part = 0; part < 4; part++) {
            x.addKit(0, part, 1);
            Check.refuses(x, "a part twice in a kit", STATE, () -> x.addKit(0, 0, 2));
        }
        Check.refuses(x, "a fifth item", STATE, () -> x.addKit(0, 4, 1));
        Check.refuses(x, "a fifth item of a wrong quantity", ARGUMENT, () -> x.addKit(0, 4, 0));
        for (int kit = 1; kit < 4; kit++) {
            x.addKit(kit, 0, 1);
        }
        Check.refuses(x, "a fifth kit", STATE, () -> x.addKit(4, 0, 1));
        Check.refuses(x, "a fifth kit of a wrong quantity", ARGUMENT, () -> x.addKit(4, 0, 0));
        Check.refuses(x, "a sixth kit", INDEX, () -> x.addKit(5, 0, 1));
    }

    private static void countsAreTold() {
        Recorded x = new Recorded();
        fill(x);
        x.request(1, 4);
        x.request(0, 7);
        int[] due = {2, 1, 3, 1, 1, 1, 3, 15};
        for (int what = 0; what < 8; what++) {
            Check.due("count(" + what + ")", x.count(what), due[what]);
        }
        Check.refuses(x, "count(8)", ARGUMENT, () -> x.count(8));
        Check.refuses(x, "count(-1)", ARGUMENT, () -> x.count(-1));
    }

    private static void numbersOfPartsAreTold() {
        Recorded x = new Recorded();
        fill(x);
        // the order of day 1 lifts the position of part 0 to its upper bound
        int[] due = {0, 2, 3, 9, 3, 3, 50, 9, 0, 1};
        for (int what = 0; what < 10; what++) {
            Check.due("part(0, " + what + ")", x.part(0, what), due[what]);
        }
        x.advance(2);
        Check.due("the sum of hundredths", x.part(0, 8), 50);
        Check.refuses(x, "part(0, 10)", ARGUMENT, () -> x.part(0, 10));
        Check.refuses(x, "part(0, -1)", ARGUMENT, () -> x.part(0, -1));
        Check.refuses(x, "part(2, 10) of 2", INDEX, () -> x.part(2, 10));
        Check.refuses(x, "part(-1, 0)", INDEX, () -> x.part(-1, 0));
    }

    private static void substitutesAreTold() {
        Recorded x = withParts(3);
        x.addSubstitute(0, 2);
        Check.due("substitute(0, 0)", x.substitute(0, 0), 2);
        Check.refuses(x, "substitute(0, 1)", ELEMENT, () -> x.substitute(0, 1));
        Check.refuses(x, "substitute(0, -1)", ELEMENT, () -> x.substitute(0, -1));
        Check.refuses(x, "substitute(0, 4)", ELEMENT, () -> x.substitute(0, 4));
        Check.refuses(x, "substitute(2, 0)", ELEMENT, () -> x.substitute(2, 0));
        Check.refuses(x, "substitute(3, 0) of 3", INDEX, () -> x.substitute(3, 0));
        Check.refuses(x, "substitute(-1, 0)", INDEX, () -> x.substitute(-1, 0));
    }

    private static void relationsAreTold() {
        Recorded x = withParts(4);
        x.addSubstitute(0, 1);
        x.addSubstitute(1, 2);
        x.addSubstitute(2, 1);
        Check.due("relation(0, 1)", x.relation(0, 1), 1);
        Check.due("relation(1, 0)", x.relation(1, 0), 2);
        Check.due("relation(1, 2)", x.relation(1, 2), 3);
        Check.due("relation(0, 2)", x.relation(0, 2), 0);
        Check.due("relation(3, 3)", x.relation(3, 3), 0);
        Check.refuses(x, "relation(4, 0) of 4", INDEX, () -> x.relation(4, 0));
        Check.refuses(x, "relation(0, 4) of 4", INDEX, () -> x.relation(0, 4));
        Check.refuses(x, "relation(-1, 0)", INDEX, () -> x.relation(-1, 0));
        Check.refuses(x, "relation(0, -1)", INDEX, () -> x.relation(0, -1));
    }

    private static void itemsAreTold() {
        Recorded x = withParts(3);
        x.addKit(0, 2, 7);
        Check.due("the part", x.item(0, 0, true), 2);
        Check.due("the quantity", x.item(0, 0, false), 7);
        Check.refuses(x, "item 1 of 1", INDEX, () -> x.item(0, 1, true));
        Check.refuses(x, "item 4", INDEX, () -> x.item(0, 4, false));
        Check.refuses(x, "item -1", INDEX, () -> x.item(0, -1, true));
        Check.refuses(x, "kit 1 of 1", INDEX, () -> x.item(1, 0, true));
        Check.refuses(x, "kit -1", INDEX, () -> x.item(-1, 0, true));
    }
}
