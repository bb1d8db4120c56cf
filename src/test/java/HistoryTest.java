import java.util.NoSuchElementException;

/** Promises 43 to 45, and what the history remembers of the other calls. */
final class HistoryTest {
    private static final Class<?> STATE = IllegalStateException.class;
    private static final Class<?> ELEMENT = NoSuchElementException.class;

    public static void main(String[] args) {
        eachChangeIsUndone();
        changesWithoutEffectAreChanges();
        refusedCallsAreNoChanges();
        eightChangesAreRemembered();
        olderChangesAreForgottenForGood();
        undoLeavesTheRest();
        clearAndRestoreForgetChanges();
        whatWasSavedIsRestored();
        partsAreRestoredWhole();
        restoreLeavesTheRest();
        restoreIsRefused();
        Check.end("HistoryTest");
    }

    private static Recorded filled() {
        Recorded x = new Recorded();
        x.addPart(3, 1, 2, 50);
        x.addPart(2, 2, 1, 70);
        x.addPart(0, 1, 1, 30);
        x.addSubstitute(0, 1);
        x.addSubstitute(0, 2);
        x.setBounds(1, 3, 5);
        x.addKit(0, 0, 1);
        x.addKit(0, 1, 1);
        x.addKit(1, 2, 1);
        x.request(2, 3);
        x.giveBack(0, 5, false);
        x.giveBack(1, 6, false);
        x.send(0, 3);
        x.send(1, 3);
        x.advance(1);
        x.request(1, 20);
        return x;
    }

    private static Check.Call[] changes(Recorded x) {
        return new Check.Call[] {() -> x.addPart(4, 2, 2, 2), () -> x.setBounds(0, 7, 9), () -> x.setYield(0, 99),
            () -> x.addSubstitute(1, 2), () -> x.removeSubstitute(0, 1), () -> x.addKit(2, 0, 5),
            () -> x.addKit(0, 2, 4), () -> x.request(2, 9), () -> x.giveBack(2, 30, true), () -> x.take(0),
            () -> x.giveBack(2, 8, false), () -> x.send(0, 1), () -> x.advance(5), () -> x.cancel(0), () -> {
                Check.append(x, "g2*5;d3;r0*9;");
                return x.read();
            }};
    }

    private static void eachChangeIsUndone() {
        Recorded x = filled();
        int changes = changes(x).length;
        for (int i = 0; i < changes; i++) {
            x = filled();
            if (i == 9) {
                x.giveBack(1, 60, true);
                x.giveBack(0, 60, true);
            }
            String before = Answers.ofWorld(x.again());
            Check.outcome(changes(x)[i]);
            Check.same("change " + i + " changes answers", Answers.ofWorld(x.again()).equals(before), false);
            Check.due("undo of change " + i, x.undo(), 7);
            Check.same("all answers behind undo of change " + i, Answers.ofWorld(x.again()), before);
        }
    }

    private static void changesWithoutEffectAreChanges() {
        Recorded x = new Recorded();
        x.addPart(5, 1, 1, 50);
        x.setBounds(0, 0, 0);
        x.setYield(0, 50);
        Check.due("three changes", x.undo(), 2);
        Check.due("two changes", x.undo(), 1);
        Check.due("one change", x.undo(), 0);
        Check.due("no part", x.count(0), 0);
        Check.refuses(x, "no change", ELEMENT, x::undo);
    }

    private static void refusedCallsAreNoChanges() {
        Recorded x = new Recorded();
        x.addPart(5, 1, 1, 50);
        x.addPart(5, 1, 1, 50);
        x.addKit(0, 0, 9);
        Check.Call[] calls = {() -> x.addPart(-1, 1, 1, 1), () -> x.setBounds(0, 2, 1), () -> x.setYield(0, 101),
            () -> x.addSubstitute(0, 0), () -> x.removeSubstitute(0, 1), () -> x.addKit(0, 0, 1),
            () -> x.request(0, 0), () -> x.take(0), () -> x.giveBack(0, 0, true), () -> x.send(0, 1),
            () -> x.advance(0), () -> x.cancel(0), x::read, x::restore};
        for (Check.Call call : calls) {
            Check.outcome(call);
        }
        x.save();
        x.sample(1, 0, 0);
        x.append('d');
        x.stockAfter(0, 9);
        x.possible(0);
        Check.due("three changes", x.undo(), 2);
        Check.due("no kit", x.count(1), 0);
    }

    private static void eightChangesAreRemembered() {
        Recorded x = new Recorded();
        x.addPart(0, 1, 1, 50);
        for (int i = 1; i <= 20; i++) {
            x.setYield(0, i);
        }
        for (int i = 1; i <= 8; i++) {
            Check.due("undo", x.undo(), 8 - i);
            Check.due("the yield behind it", x.part(0, 6), 20 - i);
        }
        Check.refuses(x, "a ninth undo", ELEMENT, x::undo);
        Check.due("the yield then", x.part(0, 6), 12);
    }

    private static void olderChangesAreForgottenForGood() {
        Recorded x = new Recorded();
        x.addPart(0, 1, 1, 50);
        for (int i = 1; i <= 9; i++) {
            x.setYield(0, i);
        }
        for (int round = 0; round < 3; round++) {
            x.undo();
            x.undo();
            x.setYield(0, 60 + round);
        }
        Check.due("5 remain", x.undo(), 4);
        Check.due("the yield", x.part(0, 6), 5);
        for (int i = 3; i >= 0; i--) {
            Check.due("undo", x.undo(), i);
        }
        Check.refuses(x, "no change", ELEMENT, x::undo);
        Check.due("the oldest yield", x.part(0, 6), 1);
    }

    private static void undoLeavesTheRest() {
        Recorded x = filled();
        Check.read(x, "x");
        Check.append(x, "d1;");
        x.sample(1, 0, 0);
        x.save();
        Check.same("take", Check.outcome(() -> x.take(0)), "UnsupportedOperationException");
        String rest = Answers.ofRest(x.again());
        x.undo();
        Check.same("shelves, error position and reasons behind undo", Answers.ofRest(x.again()), rest);
        Check.due("the input behind undo", x.append('d'), 4);
        Check.due("requests are taken back", x.count(6), 1);
        x.cancel(0);
        x.undo();
        x.request(2, 5);
        Check.due("their numbers, too", x.waiting(x.count(2) - 1, 0), 1);
        x.restore();
        Check.due("what was saved stays behind undo", x.count(6), 2);
    }

    private static void clearAndRestoreForgetChanges() {
        Recorded x = filled();
        x.save();
        x.setYield(0, 1);
        x.clear();
        Check.refuses(x, "undo behind clear", ELEMENT, x::undo);
        x.addPart(1, 1, 1, 1);
        x.restore();
        Check.refuses(x, "undo behind restore", ELEMENT, x::undo);
        for (int i = 0; i < 9; i++) {
            x.setYield(0, i);
        }
        Check.due("8 changes again", x.undo(), 7);
    }

    private static void whatWasSavedIsRestored() {
        Recorded x = filled();
        String first = Answers.ofWorld(x.again());
        Check.due("save", x.save(), 3);
        for (Check.Call change : changes(x)) {
            Check.outcome(change);
        }
        Check.same("changed", Answers.ofWorld(x.again()).equals(first), false);
        Check.due("restore", x.restore(), 3);
        Check.same("all answers behind restore", Answers.ofWorld(x.again()), first);
        x.giveBack(0, 500, true);
        x.removeSubstitute(0, 1);
        Check.due("restore again", x.restore(), 3);
        Check.same("it stays saved", Answers.ofWorld(x.again()), first);
        x.addPart(9, 9, 9, 9);
        String second = Answers.ofWorld(x.again());
        Check.due("save again", x.save(), 4);
        Check.due("save is no change", x.undo(), 0);
        Check.due("restore the second one", x.restore(), 4);
        Check.same("it replaced the first one", Answers.ofWorld(x.again()), second);
        x.clear();
        Check.due("save of nothing", x.save(), 0);
        x.addPart(9, 9, 9, 9);
        Check.due("restore of nothing", x.restore(), 0);
        Check.due("no part", x.count(0), 0);
    }

    /** Other parts, kits, requests, repairs and orders must not shine through. */
    private static void partsAreRestoredWhole() {
        Recorded x = filled();
        String before = Answers.ofWorld(x.again());
        x.save();
        x.clear();
        for (int part = 0; part < 8; part++) {
            x.addPart(50 + part, 7, 8, 90);
            x.setBounds(part, 100 + part, 200 + part);
            x.addKit(part / 2, part, 9);
            x.request(part, 300);
            x.giveBack(part, 7, false);
            x.send(part, 3);
            if (part > 0) {
                x.addSubstitute(part, part - 1);
            }
        }
        x.restore();
        Check.same("all answers behind restore", Answers.ofWorld(x.again()), before);
    }

    private static void restoreLeavesTheRest() {
        Recorded x = filled();
        x.save();
        Check.read(x, "x");
        Check.append(x, "d1");
        x.sample(1, 2, 0);
        Check.outcome(() -> x.take(0));
        String rest = Answers.ofRest(x.again());
        x.restore();
        Check.same("shelves, error position and reasons behind restore", Answers.ofRest(x.again()), rest);
        Check.due("the input behind restore", x.append(';'), 3);
    }

    private static void restoreIsRefused() {
        Recorded x = new Recorded();
        x.addPart(1, 1, 1, 1);
        Check.refuses(x, "restore", STATE, x::restore);
        Check.due("the change is still remembered", x.undo(), 0);
    }
}
