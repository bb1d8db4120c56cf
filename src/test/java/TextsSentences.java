/** The sentences of the promises 37 to 42: shelves, the input and texts. */
final class TextsSentences extends Edges {
    static void hold() {
        holdSample();
        holdSampled();
        holdAppend();
        holdRead();
        holdErrorPositionAndRefused();
    }

    private static void holdSample() {
        Sentences.under("Promise 37: sample");
        Sentences.hold("Puts a copy of a part as it is now into a place of a shelf, in place of what it held.",
            TextsSentences::copies);
        Sentences.hold("There are 2 shelves with 3 places each, numbered from 0, which are empty at first.",
            TextsSentences::sixPlaces);
        Sentences.hold("Shelf 0 only holds parts whose position is less than the lower bound.",
            TextsSentences::shelfOfLowParts);
        Sentences.hold("Returns the number of places of the shelf that are not empty then.", TextsSentences::filledPlaces);
        Sentences.hold("Throws `IndexOutOfBoundsException` if there is no such shelf, place or part", () -> {
            allowsOnly(0, 1, INDEX, Edges::busy, (x, shelf) -> x.sample(shelf, 0, 1));
            allowsOnly(0, 2, INDEX, Edges::busy, (x, place) -> x.sample(0, place, 1));
            allowsOnly(0, 2, INDEX, Edges::busy, (x, place) -> x.sample(1, place, 1));
            wantsPart((x, part) -> x.sample(0, 0, part));
            wantsPart((x, part) -> x.sample(1, 2, part));
        });
        Sentences.hold("Throws `UnsupportedOperationException` if the shelf does not hold this part",
            TextsSentences::notHeld);
    }

    private static void holdSampled() {
        Sentences.under("Promise 38: sampled");
        Sentences.noCase("Returns a number of the copy of a part in a place of a shelf.");
        Sentences.hold("- `what`: 0 for the number of the part, 1 for its stock, 2 for its position, 3 for the day",
            TextsSentences::numbersOfCopies);
        Sentences.hold("Returns the number, as it was when the copy was made.", TextsSentences::asItWas);
        Sentences.hold("Throws `IndexOutOfBoundsException` if there is no such shelf or place", () -> {
            allowsOnly(0, 1, INDEX, allFilled(), (x, shelf) -> x.sampled(shelf, 0, 3));
            allowsOnly(0, 2, INDEX, allFilled(), (x, place) -> x.sampled(0, place, 3));
            allowsOnly(0, 2, INDEX, allFilled(), (x, place) -> x.sampled(1, place, 3));
        });
        Sentences.hold("Throws `IllegalArgumentException` if what is not 0 to 3", () -> {
            allowsOnly(0, 3, ARGUMENT, Edges::busy, (x, what) -> x.sampled(1, 0, what));
            refuses(ARGUMENT, SparePlanner::new, x -> x.sampled(0, 0, 4));
        });
        Sentences.hold("Throws `NoSuchElementException` if the place is empty", TextsSentences::emptyPlaces);
    }

    private static void holdAppend() {
        Sentences.under("Promise 39: append");
        Sentences.noCase("Appends a character to the input.");
        Sentences.hold("- `character`: the character, with a code from 32 to 126", TextsSentences::charactersAtTheEnds);
        Sentences.hold("Returns the new length of the input.", TextsSentences::newLengths);
        Sentences.hold("Throws `IllegalArgumentException` if the character code is out of range",
            TextsSentences::wrongCharacters);
        Sentences.hold("Throws `IllegalStateException` if the input has 60 characters", TextsSentences::fullInput);
    }

    private static void holdRead() {
        Sentences.under("Promise 40: read");
        Sentences.hold("Does what the entries of the text in the input tell, in their order, or nothing of it.",
            TextsSentences::allOrNothing);
        Sentences.hold("The input is empty afterwards, whatever happens.", TextsSentences::inputIsEmpty);
        Sentences.hold("It is one change.", TextsSentences::oneChange);
        Sentences.hold("Returns the number of entries.", TextsSentences::numbersOfEntries);
        Sentences.hold("Throws `IllegalArgumentException` if the input is not a text of this kind; the error position is"
            + " then kept for errorPosition", TextsSentences::noText);
        Sentences.hold("Throws `UnsupportedOperationException` if the call for an entry, behind those before it, would throw"
            + " an exception; its number, from 0, is then kept for refused, and the reason of request, take or send if"
            + " there is one", TextsSentences::refusedEntries);
    }

    private static void holdErrorPositionAndRefused() {
        Sentences.under("Promise 41: errorPosition");
        Sentences.hold("Returns the error position that was kept last; it stays until the next text that is not as told is"
            + " read.", TextsSentences::errorPositionStays);
        Sentences.noCase("Returns the error position.");
        Sentences.hold("Throws `NoSuchElementException` if none was kept", TextsSentences::noErrorPosition);
        Sentences.under("Promise 42: refused");
        Sentences.hold("Returns the number of the entry that was kept last, in the same way.", TextsSentences::refusedStays);
        Sentences.hold("Returns the number, from 0.", TextsSentences::numbersOfRefused);
        Sentences.hold("Throws `NoSuchElementException` if none was kept", TextsSentences::nothingRefused);
    }

    // ---- promises 37 and 38

    private static void copyIs(SparePlanner x, int shelf, int place, int... due) {
        for (int what = 0; what < 4; what++) {
            due(x.sampled(shelf, place, what), due[what]);
        }
    }

    private static void copies() {
        SparePlanner x = busy();
        copyIs(x, 1, 0, 2, 9, 9, 1);
        x.advance(1);
        due(x.sample(1, 0, 0), 1);
        copyIs(x, 1, 0, 0, 5, 6, 2);
        // what was missing is ordered on day 2, so that only a new request makes the position low again
        x.request(1, 1);
        due(x.sample(0, 1, 1), 1);
        copyIs(x, 0, 1, 1, 0, -1, 2);
        x.giveBack(0, 3, true);
        copyIs(x, 1, 0, 0, 5, 6, 2);
        due(x.sample(1, 0, 0), 1);
        copyIs(x, 1, 0, 0, 8, 9, 2);
    }

    private static Scene allFilled() {
        return () -> {
            SparePlanner x = stocks(1, 2, 3, 4, 5, 6).get();
            for (int part = 0; part < 6; part++) {
                x.setBounds(part, 9, 9);
                x.sample(part / 3, part % 3, part);
            }
            return x;
        };
    }

    private static void sixPlaces() {
        for (int place = 0; place < 6; place++) {
            int shelf = place / 3;
            int index = place % 3;
            refuses(ELEMENT, SparePlanner::new, x -> x.sampled(shelf, index, 0));
            due(allFilled().get().sampled(shelf, index, 0), place);
        }
        refuses(INDEX, allFilled(), x -> x.sample(0, 3, 0));
        refuses(INDEX, allFilled(), x -> x.sample(2, 0, 0));
        refuses(INDEX, allFilled(), x -> x.sampled(0, 3, 0));
        refuses(INDEX, allFilled(), x -> x.sampled(2, 0, 0));
    }

    private static void shelfOfLowParts() {
        for (int lower = 4; lower <= 6; lower++) {
            int bound = lower;
            Scene scene = stocks(5).and(x -> x.setBounds(0, bound, 9));
            if (lower == 6) {
                due(scene.get().sample(0, 0, 0), 1);
            } else {
                refuses(UNSUPPORTED, scene, x -> x.sample(0, 0, 0));
            }
            due(scene.get().sample(1, 0, 0), 1);
        }
        due(stocks(5).and(x -> x.request(0, 6)).get().sample(0, 2, 0), 1);
        refuses(UNSUPPORTED, stocks(5).and(x -> x.request(0, 5)), x -> x.sample(0, 2, 0));
        // what is under way counts in the position
        refuses(UNSUPPORTED, stocks(5).and(x -> x.request(0, 6)).and(x -> x.advance(1)), x -> x.sample(0, 0, 0));
    }

    private static void filledPlaces() {
        SparePlanner x = stocks(1).and(y -> y.setBounds(0, 9, 9)).get();
        for (int shelf = 0; shelf < 2; shelf++) {
            due(x.sample(shelf, 2, 0), 1);
            due(x.sample(shelf, 2, 0), 1);
            due(x.sample(shelf, 0, 0), 2);
            due(x.sample(shelf, 1, 0), 3);
            due(x.sample(shelf, 1, 0), 3);
        }
    }

    private static void notHeld() {
        refuses(UNSUPPORTED, Edges::busy, x -> x.sample(0, 0, 0));
        refuses(UNSUPPORTED, Edges::busy, x -> x.sample(0, 1, 0));
        refuses(UNSUPPORTED, Edges::busy, x -> x.sample(0, 2, 2));
        refuses(UNSUPPORTED, stocks(0), x -> x.sample(0, 0, 0));
        answers(Edges::busy, x -> x.sample(0, 0, 1));
        answers(Edges::busy, x -> x.sample(1, 0, 0));
        due(busy().sampled(0, 1, 0), 1);
    }

    private static void numbersOfCopies() {
        SparePlanner x = stocks(1, 1, 1, 1, 1, 1, 1, 9).get();
        due(x.sample(1, 0, 7), 1);
        copyIs(x, 1, 0, 7, 9, 9, 0);
        x.advance(30);
        x.request(7, 999);
        due(x.sample(0, 0, 7), 1);
        copyIs(x, 0, 0, 7, 0, -990, 30);
        SparePlanner y = repairs(1).get();
        y.sample(1, 1, 0);
        copyIs(y, 1, 1, 0, 0, 1, 0);
    }

    private static void asItWas() {
        Scene scene = allFilled();
        Deed[] deeds = {SparePlanner::clear, SparePlanner::undo, SparePlanner::save, x -> x.giveBack(0, 9, true),
            x -> x.request(1, 9), x -> x.advance(9), x -> x.setBounds(2, 0, 0), x -> x.sample(0, 0, 9)};
        for (Deed deed : deeds) {
            SparePlanner x = scene.tried(deed).get();
            for (int place = 0; place < 6; place++) {
                copyIs(x, place / 3, place % 3, place, place + 1, place + 1, 0);
            }
        }
    }

    private static void emptyPlaces() {
        for (int what = 0; what < 4; what++) {
            int asked = what;
            refuses(ELEMENT, SparePlanner::new, x -> x.sampled(0, 0, asked));
            refuses(ELEMENT, Edges::busy, x -> x.sampled(1, 1, asked));
            refuses(ELEMENT, Edges::busy, x -> x.sampled(0, 0, asked));
        }
        refuses(ELEMENT, stocks(5).tried(x -> x.sample(0, 0, 0)), x -> x.sampled(0, 0, 0));
        refuses(ELEMENT, stocks(5).and(x -> x.sample(1, 0, 0)), x -> x.sampled(0, 0, 0));
        refuses(ELEMENT, stocks(5).and(x -> x.sample(1, 0, 0)), x -> x.sampled(1, 2, 0));
    }

    // ---- promise 39

    private static void charactersAtTheEnds() {
        due(new SparePlanner().append((char) 32), 1);
        due(new SparePlanner().append((char) 126), 1);
        refuses(ARGUMENT, Edges::busy, x -> x.append((char) 31));
        refuses(ARGUMENT, Edges::busy, x -> x.append((char) 127));
        for (int code = 32; code <= 126; code++) {
            due(busy().append((char) code), 8);
        }
    }

    private static void newLengths() {
        SparePlanner x = new SparePlanner();
        for (int length = 1; length <= 60; length++) {
            due(x.append(' '), length);
        }
        Check.outcome(x::read);
        due(x.append(' '), 1);
        x.clear();
        due(x.append(' '), 2);
    }

    private static void wrongCharacters() {
        for (int code : new int[] {0, 9, 10, 31, 127, 128, 160, 255, 256, 256 + 'd', 65535}) {
            refuses(ARGUMENT, Edges::busy, x -> x.append((char) code));
            refuses(ARGUMENT, input("d1;".repeat(20)), x -> x.append((char) code));
        }
    }

    private static void fullInput() {
        refuses(STATE, input("d1;".repeat(20)), x -> x.append(';'));
        refuses(STATE, input("~".repeat(60)), x -> x.append(' '));
        due(input("d1;".repeat(19) + "d1").get().append(';'), 60);
        due(input("d1;".repeat(20)).and(SparePlanner::read).get().append('d'), 1);
    }

    // ---- promise 40

    private static void allOrNothing() {
        Scene read = input("g1*9;r1*3;d1;s0*4;k1;b2*999;");
        SparePlanner x = read.get();
        due(Check.outcome(x::read), UNSUPPORTED.getSimpleName());
        due(x.refused(), 4);
        due(Answers.ofWorld(x), Answers.ofWorld(busy()));
        SparePlanner y = input("g1*15;r1*3;d1;s0*4;b2*999;").get();
        due(y.read(), 5);
        SparePlanner z = busy();
        z.giveBack(1, 15, true);
        z.request(1, 3);
        z.advance(1);
        z.send(0, 4);
        z.giveBack(2, 999, false);
        due(Answers.ofWorld(y), Answers.ofWorld(z));
        // the other way round the request would wait and be served later
        SparePlanner turned = input("r1*3;g1*15;").get();
        turned.read();
        due(turned.movement(1, 7), 9);
        due(turned.service(1), 0f);
        due(input("g1*15;r1*3;").and(SparePlanner::read).get().service(1), 3f / 9f);
    }

    private static void inputIsEmpty() {
        for (String text : new String[] {"d1;", "d1;".repeat(20), "", "x", "d1;d", "k2;", "k1;", "~".repeat(60)}) {
            SparePlanner x = input(text).get();
            Check.outcome(x::read);
            due(x.append('d'), 1);
            x.append('1');
            x.append(';');
            due(x.read(), 1);
        }
    }

    private static void oneChange() {
        for (String text : new String[] {"d1;", "d1;".repeat(20), "g0*1;r0*1;"}) {
            SparePlanner x = input(text).get();
            x.read();
            due(x.undo(), 7);
            due(Answers.ofWorld(x), Answers.ofWorld(busy()));
        }
        SparePlanner few = stocks(1).get();
        due(Check.read(few, "d1;d1;d1;"), "3");
        due(few.undo(), 1);
        due(few.count(5), 0);
        due(Check.read(few, "x"), ARGUMENT.getSimpleName());
        due(Check.read(few, "d1;k0;"), UNSUPPORTED.getSimpleName());
        due(few.undo(), 0);
        due(few.count(0), 0);
    }

    private static void numbersOfEntries() {
        for (int entries = 1; entries <= 20; entries++) {
            due(input("d1;".repeat(entries)).get().read(), entries);
        }
        due(input("r0*1;".repeat(12)).get().read(), 12);
        due(input("g0*999;b0*99;k0;").get().read(), 3);
    }

    private static void noText() {
        String[] texts = {"", "x", "d1", "d1;d", "k9;", "g0*0;", "~".repeat(60)};
        int[] due = {0, 0, 2, 4, 1, 3, 0};
        for (int i = 0; i < texts.length; i++) {
            SparePlanner x = refusesButKeeps(ARGUMENT, input(texts[i]), SparePlanner::read, "input", "error position");
            due(x.errorPosition(), due[i]);
        }
        // an entry that would be refused is not looked at before
        SparePlanner x = refusesButKeeps(ARGUMENT, input("k2;s0*999;x"), SparePlanner::read, "input", "error position");
        due(x.errorPosition(), 10);
    }

    private static void isRefused(String text, int entry, int reason) {
        SparePlanner x = input(text).get();
        due(Check.outcome(x::read), UNSUPPORTED.getSimpleName());
        refusesButKeeps(UNSUPPORTED, input(text), SparePlanner::read, "input", "refused entry", "reason");
        due(x.refused(), entry);
        due(x.reason(0), reason);
    }

    private static void refusedEntries() {
        isRefused("r3*1;", 0, 3);
        isRefused("d1;g7*1;", 1, 3);
        isRefused("b3*1;k2;", 0, 3);
        isRefused("s3*1;", 0, 3);
        isRefused("k2;", 0, 3);
        isRefused("s0*5;", 0, 2);
        isRefused("s0*4;s0*1;", 1, 2);
        isRefused("s0*1;s0*1;s0*1;s0*2;", 3, 2);
        isRefused("r1*1;".repeat(11), 10, 1);
        isRefused("b0*9;" + "s0*1;".repeat(10) + "s2*1;", 11, 2);
        isRefused("d1;".repeat(19) + "k3;", 19, 3);
        isRefused("k0;k0;k0;k0;k0;", 4, 3);
        due(input("r1*1;".repeat(10)).get().read(), 10);
        due(input("s0*4;").get().read(), 1);
        due(input("b0*1;s0*5;").get().read(), 2);
        due(input("k0;k0;k0;k0;").get().read(), 4);
        refusedForTheirNumber();
    }

    private static void refusedForTheirNumber() {
        SparePlanner x = repairs(2).get();
        due(Check.read(x, "s0*1;".repeat(10) + "s0*1;"), UNSUPPORTED.getSimpleName());
        due(x.refused(), 10);
        due(x.reason(0), 1);
        due(x.count(3), 2);
        due(Check.read(x, "s0*1;".repeat(10) + "d9;s0*1;"), "12");
        due(x.count(3), 1);
        SparePlanner y = busy();
        Check.outcome(y::read);
        due(Check.read(y, "r0*12;k0;"), UNSUPPORTED.getSimpleName());
        due(y.refused(), 1);
        due(y.reason(0), 3);
        due(y.reason(1), 2);
        due(y.reason(2), 1);
    }

    // ---- promises 41 and 42

    private static void errorPositionStays() {
        SparePlanner x = busy();
        due(x.errorPosition(), 3);
        Check.outcome(x::read);
        due(x.errorPosition(), 7);
        due(x.errorPosition(), 7);
        for (String text : new String[] {"d1;", "k2;", "d1;".repeat(20)}) {
            Check.read(x, text);
            due(x.errorPosition(), 7);
        }
        x.undo();
        x.clear();
        x.restore();
        x.append('d');
        due(x.errorPosition(), 7);
        Check.outcome(x::read);
        due(x.errorPosition(), 1);
        Check.outcome(x::read);
        due(x.errorPosition(), 0);
    }

    private static void noErrorPosition() {
        refuses(ELEMENT, SparePlanner::new, SparePlanner::errorPosition);
        refuses(ELEMENT, stocks(1).and(x -> Check.read(x, "d1;")), SparePlanner::errorPosition);
        refuses(ELEMENT, stocks(1).and(x -> Check.read(x, "k0;")), SparePlanner::errorPosition);
        refuses(ELEMENT, stocks(1).and(x -> x.append('x')), SparePlanner::errorPosition);
        answers(SparePlanner::new, x -> {
            Check.outcome(x::read);
            return x.errorPosition();
        });
    }

    private static void refusedStays() {
        SparePlanner x = busy();
        due(x.refused(), 1);
        for (String text : new String[] {"d1;", "x", "", "d1;".repeat(20)}) {
            Check.read(x, text);
            due(x.refused(), 1);
        }
        Check.outcome(() -> x.take(1));
        x.undo();
        x.clear();
        x.restore();
        due(x.refused(), 1);
        due(Check.read(x, "d1;d1;k3;"), UNSUPPORTED.getSimpleName());
        due(x.refused(), 2);
    }

    private static void numbersOfRefused() {
        for (int entry = 0; entry < 20; entry++) {
            SparePlanner x = stocks(1).get();
            due(Check.read(x, "d1;".repeat(entry) + "k0;".repeat(20 - entry)), UNSUPPORTED.getSimpleName());
            due(x.refused(), entry);
        }
    }

    private static void nothingRefused() {
        refuses(ELEMENT, SparePlanner::new, SparePlanner::refused);
        refuses(ELEMENT, stocks(1).and(x -> Check.read(x, "d1;")), SparePlanner::refused);
        refuses(ELEMENT, stocks(1).and(x -> Check.read(x, "k0;x")), SparePlanner::refused);
        refuses(ELEMENT, stocks(1).and(x -> Check.read(x, "")), SparePlanner::refused);
        refuses(ELEMENT, waiting(12).tried(x -> x.request(0, 1)), SparePlanner::refused);
    }
}
