/** The sentences of the promises 43 to 45: undo, save and restore. */
final class HistorySentences extends Edges {
    static void hold() {
        Sentences.under("Promise 43: undo");
        Sentences.hold("Undoes the latest change that is remembered.", HistorySentences::theLatestChange);
        Sentences.hold("Returns the number of changes that are still remembered.", HistorySentences::stillRemembered);
        Sentences.hold("Throws `NoSuchElementException` if no change is remembered", HistorySentences::nothingToUndo);
        Sentences.under("Promise 44: save");
        Sentences.hold("Saves all that the history remembers for a change.", HistorySentences::allIsSaved);
        Sentences.hold("What was saved before is replaced.", HistorySentences::savedIsReplaced);
        Sentences.hold("Returns the number of parts.", () -> partsAreCounted(SparePlanner::save));
        Sentences.under("Promise 45: restore");
        Sentences.hold("Restores what was saved.", HistorySentences::savedIsRestored);
        Sentences.hold("It stays saved.", HistorySentences::staysSaved);
        Sentences.hold("Returns the number of parts.",
            () -> partsAreCounted(x -> x.save() * 0 + x.restore()));
        Sentences.hold("Throws `IllegalStateException` if nothing was saved", HistorySentences::nothingSaved);
    }

    private static void theLatestChange() {
        SparePlanner x = stocks(1).get();
        for (int percent = 0; percent < 20; percent++) {
            x.setYield(0, percent);
            x.setBounds(0, percent, 99);
            x.undo();
            due(x.part(0, 6), percent);
            due(x.part(0, 2), 0);
        }
        for (int i = 0; i < 7; i++) {
            x.undo();
            due(x.part(0, 6), 18 - i);
        }
        SparePlanner turned = stocks(1).get();
        for (int i = 1; i <= 30; i++) {
            turned.setYield(0, i);
            turned.setYield(0, 99);
            turned.undo();
            due(turned.part(0, 6), i);
        }
        alike(full(), full().and(x1 -> x1.advance(9)).and(SparePlanner::undo).and(x1 -> x1.save() * 0));
    }

    /** Seven changes are remembered, and what is there now was saved. */
    private static Scene full() {
        return stocks(5, 4, 3, 2, 1, 0).and(x -> x.request(0, 9)).and(SparePlanner::save);
    }

    private static void stillRemembered() {
        for (int changes = 1; changes <= 10; changes++) {
            SparePlanner x = stocks(1).get();
            for (int i = 1; i < changes; i++) {
                x.advance(1);
            }
            for (int left = Math.min(changes, 8) - 1; left >= 0; left--) {
                due(x.undo(), left);
            }
        }
        SparePlanner x = busy();
        due(x.undo(), 7);
        x.advance(1);
        due(x.undo(), 7);
        x.advance(1);
        x.advance(1);
        due(x.undo(), 7);
    }

    private static void nothingToUndo() {
        refuses(ELEMENT, SparePlanner::new, SparePlanner::undo);
        refuses(ELEMENT, stocks(1).and(SparePlanner::undo), SparePlanner::undo);
        refuses(ELEMENT, cleared(), SparePlanner::undo);
        refuses(ELEMENT, ((Scene) Edges::busy).and(SparePlanner::restore), SparePlanner::undo);
        refuses(ELEMENT, ((Scene) SparePlanner::new).tried(x -> x.addPart(-1, 1, 1, 1)), SparePlanner::undo);
        refuses(ELEMENT, ((Scene) SparePlanner::new).and(SparePlanner::save), SparePlanner::undo);
        Scene eight = Edges::busy;
        for (int i = 0; i < 8; i++) {
            answers(eight, SparePlanner::undo);
            eight = eight.and(SparePlanner::undo);
        }
        refuses(ELEMENT, eight, SparePlanner::undo);
    }

    private static Scene[] allKinds() {
        return new Scene[] {SparePlanner::new, Edges::busy, eightParts(), fourSubstitutes(), fourKits(), waiting(12),
            repairs(12), orders(12)};
    }

    private static void allIsSaved() {
        for (Scene scene : allKinds()) {
            String world = Answers.ofWorld(scene.get());
            Scene saved = scene.and(SparePlanner::save);
            due(Answers.ofWorld(saved.get()), world);
            Scene other = saved.and(SparePlanner::clear).and(x -> x.addPart(9, 9, 9, 9)).and(x -> x.addKit(0, 0, 9))
                .and(x -> x.request(0, 99));
            due(Answers.ofWorld(other.and(SparePlanner::restore).get()), world);
        }
        // save is no change, and forgets none
        SparePlanner x = busy();
        x.save();
        due(x.undo(), 7);
    }

    private static void savedIsReplaced() {
        for (Scene scene : allKinds()) {
            Scene second = scene.and(SparePlanner::save).and(x -> x.advance(1));
            Scene restored = second.and(SparePlanner::save).and(SparePlanner::clear).and(SparePlanner::restore);
            due(Answers.ofWorld(restored.get()), Answers.ofWorld(second.get()));
        }
        SparePlanner x = busy();
        x.clear();
        due(x.save(), 0);
        x.addPart(1, 1, 1, 1);
        due(x.restore(), 0);
        due(x.count(0), 0);
    }

    private static void partsAreCounted(Deed deed) {
        due(Check.outcome(() -> deed.on(new SparePlanner())), "0");
        due(Check.outcome(() -> deed.on(stocks(1).get())), "1");
        due(Check.outcome(() -> deed.on(eightParts().get())), "8");
        due(Check.outcome(() -> deed.on(eightParts().and(SparePlanner::undo).get())), "7");
        due(Check.outcome(() -> deed.on(cleared().get())), "0");
    }

    /** Whatever came behind save is gone, and what the history does not remember stays. */
    private static void savedIsRestored() {
        for (Scene scene : allKinds()) {
            String world = Answers.ofWorld(scene.get());
            for (Scene other : allKinds()) {
                SparePlanner x = scene.get();
                x.save();
                x.clear();
                for (int part = 0; part < other.get().count(0); part++) {
                    x.addPart(part, 1, 1, 1);
                    x.request(part, 9);
                    x.giveBack(part, 1, false);
                }
                x.restore();
                due(Answers.ofWorld(x), world);
            }
        }
        SparePlanner x = busy();
        String rest = Answers.ofRest(x);
        x.restore();
        due(Answers.ofRest(x), rest);
        due(x.append(';'), 8);
        due(x.count(5), 0);
        due(x.count(6), 1);
    }

    private static void staysSaved() {
        Scene scene = ((Scene) Edges::busy).and(SparePlanner::restore);
        String world = Answers.ofWorld(scene.get());
        for (int i = 0; i < 3; i++) {
            scene = scene.and(x -> x.advance(9)).and(x -> x.addPart(9, 9, 9, 9)).and(SparePlanner::restore);
            due(Answers.ofWorld(scene.get()), world);
            scene = scene.and(SparePlanner::clear);
            due(scene.get().restore(), 3);
            due(Answers.ofWorld(scene.and(SparePlanner::restore).get()), world);
        }
    }

    private static void nothingSaved() {
        refuses(STATE, SparePlanner::new, SparePlanner::restore);
        refuses(STATE, eightParts(), SparePlanner::restore);
        refuses(STATE, waiting(12), SparePlanner::restore);
        answers(((Scene) SparePlanner::new).and(SparePlanner::save), SparePlanner::restore);
        // what an empty planner saved is something
        due(((Scene) SparePlanner::new).and(SparePlanner::save).and(x -> x.addPart(1, 1, 1, 1)).get().restore(), 0);
    }
}
