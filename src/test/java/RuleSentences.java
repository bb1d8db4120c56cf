import java.util.List;

/** The sentences of the description about reasons, texts, the history and exceptions. */
final class RuleSentences extends Edges {
    static void hold() {
        Sentences.under("Description");
        holdReasonsAndTexts();
        Sentences.hold("A change is a call of addPart, setBounds, setYield, addSubstitute, removeSubstitute, addKit,"
            + " request, take, giveBack, send, advance, cancel or read that returns without an exception, also if nothing"
            + " is otherwise then.", RuleSentences::changes);
        Sentences.hold("The object remembers everything except the shelves, the input, the error position, the refused"
            + " entry, the reasons with what is missing, and what was saved, as it is just before a change, for at most 8"
            + " changes, of which the oldest one is forgotten for good when there would be more.",
            RuleSentences::eightChanges);
        Sentences.hold("clear and restore forget all of them.", RuleSentences::allAreForgotten);
        Sentences.hold("A method that throws an exception leaves the state unchanged, unless its documentation says"
            + " otherwise.", RuleSentences::refusedCallsChangeNothing);
        Sentences.hold("If several exceptions apply, the one that is documented first is thrown.",
            RuleSentences::theFirstIsThrown);
        // no method of the face takes or answers a set
        Sentences.noCase("Sets are bit masks, bit k for number k.");
        Sentences.hold("Methods whose documentation does not mention a change only answer a question.",
            RuleSentences::questionsChangeNothing);
        Sentences.noCase("The constructor and the methods follow, a promise each: the signature, then what it does.");
    }

    private static void holdReasonsAndTexts() {
        Sentences.hold("When request, take, send or read throws an UnsupportedOperationException or an"
            + " IllegalStateException, a reason is kept: 1 too many wait or are under way, 2 there are not so many broken"
            + " pieces, 3 an item cannot be served.", RuleSentences::reasons);
        Sentences.hold("What is missing is kept with reason 3: the part of the first item that cannot be served, and how"
            + " many pieces are missing for it.", RuleSentences::whatIsMissing);
        Sentences.hold("The input is a buffer of at most 60 characters.", RuleSentences::inputOfSixty);
        Sentences.hold("A text consists of one or several entries, each followed by a semicolon: r, a part, an asterisk and"
            + " a quantity, which makes a request; g or b, a part, an asterisk and a quantity, which returns good or"
            + " broken pieces; s, a part, an asterisk and a quantity, which sends broken pieces to repair; k and a kit,"
            + " which takes a kit; or d and a digit from 1 to 9, which lets so many days end.", RuleSentences::entries);
        Sentences.hold("A part is a digit from 0 to 7, a kit a digit from 0 to 3, and a quantity a number from 1 to 999"
            + " without leading zeros, of which each digit that can follow belongs to it.", RuleSentences::numbersOfEntries);
        Sentences.hold("The error position of a text that is not like this is the smallest index k such that no text of"
            + " this kind starts with the first k + 1 characters of it; if there is no such index, it is the length of"
            + " the text.", RuleSentences::errorPositions);
    }

    // ---- reasons

    private static void reasonIs(SparePlanner x, int reason) {
        due(x.reason(0), reason);
        if (reason != 3) {
            due(Check.outcome(() -> x.reason(1)), ELEMENT.getSimpleName());
            due(Check.outcome(() -> x.reason(2)), ELEMENT.getSimpleName());
        }
    }

    private static void reasons() {
        reasonIs(refusesButKeeps(STATE, waiting(12), x -> x.request(0, 1), "reason"), 1);
        reasonIs(refusesButKeeps(STATE, repairs(12), x -> x.send(0, 1), "reason"), 1);
        reasonIs(refusesButKeeps(UNSUPPORTED, repairs(0), x -> x.send(0, 21), "reason"), 2);
        reasonIs(refusesButKeeps(UNSUPPORTED, stocks(0).and(x -> x.addKit(0, 0, 1)), x -> x.take(0), "reason"), 3);
        String[] texts = {"r0*1;", "s0*1;", "s0*21;"};
        Scene[] scenes = {waiting(12), repairs(12), repairs(0)};
        int[] due = {1, 1, 2};
        for (int i = 0; i < texts.length; i++) {
            String text = texts[i];
            Scene scene = scenes[i].and(x -> {
                Check.append(x, text);
                return 0;
            });
            reasonIs(refusesButKeeps(UNSUPPORTED, scene, SparePlanner::read, "input", "refused entry", "reason"), due[i]);
        }
        otherCallsKeepNoReason();
    }

    /** Other methods throw these exceptions, too, and these methods throw others. */
    private static void otherCallsKeepNoReason() {
        refuses(STATE, eightParts(), x -> x.addPart(1, 1, 1, 1));
        refuses(STATE, fourSubstitutes(), x -> x.addSubstitute(0, 5));
        refuses(STATE, fourKits(), x -> x.addKit(0, 4, 1));
        refuses(STATE, stocks(1), SparePlanner::restore);
        refuses(STATE, input("d1;".repeat(20)), x -> x.append('d'));
        refuses(UNSUPPORTED, stocks(1), x -> x.sample(0, 0, 0));
        refuses(ARGUMENT, waiting(12), x -> x.request(0, 0));
        refuses(INDEX, waiting(12), x -> x.request(2, 1));
        refuses(INDEX, stocks(1), x -> x.take(0));
        refuses(ARGUMENT, repairs(12), x -> x.send(0, 1000));
        SparePlanner x = stocks(0).get();
        x.request(0, 1);
        due(Check.outcome(() -> x.reason(0)), ELEMENT.getSimpleName());
    }

    private static void whatIsMissing() {
        Scene scene = stocks(2, 1, 0).and(x -> x.addKit(0, 0, 2)).and(x -> x.addKit(0, 1, 2)).and(x -> x.addKit(0, 2, 9));
        SparePlanner x = refusesButKeeps(UNSUPPORTED, scene, y -> y.take(0), "reason");
        due(x.reason(0), 3);
        due(x.reason(1), 1);
        due(x.reason(2), 1);
        x.giveBack(1, 1, true);
        due(x.reason(2), 1);
        Check.outcome(() -> x.take(0));
        due(x.reason(1), 2);
        due(x.reason(2), 9);
        x.addKit(1, 2, 3);
        due(Check.read(x, "d1;k1;"), UNSUPPORTED.getSimpleName());
        due(x.reason(1), 2);
        due(x.reason(2), 3);
    }

    // ---- texts

    private static void inputOfSixty() {
        SparePlanner x = new SparePlanner();
        for (int length = 1; length <= 60; length++) {
            due(x.append('d'), length);
        }
        refuses(STATE, input("d1;".repeat(20)), y -> y.append('d'));
        refuses(STATE, input("d1;".repeat(20)), y -> y.append(';'));
        due(input("d1;".repeat(19) + "d1").get().append(';'), 60);
        due(input("d1;".repeat(19) + "d1").and(y -> y.append(';')).get().read(), 20);
    }

    private static Scene forTexts() {
        return () -> {
            SparePlanner x = eightParts().get();
            for (int part = 0; part < 8; part++) {
                x.giveBack(part, 999, false);
            }
            x.giveBack(0, 999, true);
            for (int kit = 0; kit < 4; kit++) {
                x.addKit(kit, 7 - kit, 2);
            }
            return x;
        };
    }

    private static void does(String text, Deed deed) {
        Scene read = forTexts().and(x -> Check.read(x, text));
        alike(read, forTexts().and(deed));
    }

    private static void isNoText(String text, int position) {
        SparePlanner x = refusesButKeeps(ARGUMENT, input(text), SparePlanner::read, "input", "error position");
        due(x.errorPosition(), position);
        due(x.append('d'), 1);
    }

    private static void entries() {
        does("r0*3;", x -> x.request(0, 3));
        does("g0*3;", x -> x.giveBack(0, 3, true));
        does("b0*3;", x -> x.giveBack(0, 3, false));
        does("s0*3;", x -> x.send(0, 3));
        does("k0;", x -> x.take(0));
        for (int days = 1; days <= 9; days++) {
            int asked = days;
            does("d" + days + ";", x -> x.advance(asked));
        }
        isNoText("d0;", 1);
        isNoText("d10;", 2);
        isNoText("d:;", 1);
        isNoText("d1", 2);
        isNoText("d1;k0", 5);
        isNoText("d1;;", 3);
        isNoText(";", 0);
        isNoText("d1; d1;", 3);
        isNoText("R0*3;", 0);
        isNoText("r0+3;", 2);
        isNoText("r*3;", 1);
        isNoText("k0*1;", 2);
        isNoText("a0*1;", 0);
        due(Check.read(forTexts().get(), "r0*3;g0*3;b0*3;s0*3;k0;d1;k1;d9;"), "8");
        due(Check.read(forTexts().get(), "d1;".repeat(20)), "20");
    }

    private static void numbersOfEntries() {
        for (int part = 0; part < 8; part++) {
            int asked = part;
            does("g" + part + "*1;", x -> x.giveBack(asked, 1, true));
        }
        for (int kit = 0; kit < 4; kit++) {
            int asked = kit;
            does("k" + kit + ";", x -> x.take(asked));
        }
        for (int quantity : new int[] {1, 9, 10, 99, 100, 101, 110, 990, 998, 999}) {
            does("r0*" + quantity + ";", x -> x.request(0, quantity));
        }
        isNoText("g8*1;", 1);
        isNoText("g/*1;", 1);
        isNoText("k4;", 1);
        isNoText("k/;", 1);
        isNoText("g0*0;", 3);
        isNoText("g0*01;", 3);
        isNoText("g0*1000;", 6);
        isNoText("g0*999", 6);
        isNoText("g0*-1;", 3);
        isNoText("g0*;", 3);
        isNoText("g0*1:", 4);
        isNoText("g0*1/", 4);
        isNoText("g0*12:", 5);
        isNoText("g00*1;", 2);
        isNoText("k00;", 2);
    }

    private static void errorPositions() {
        isNoText("", 0);
        for (String start : new String[] {"r", "r7", "r7*", "r7*9", "r7*90", "r7*900", "k", "k3", "d", "d9"}) {
            isNoText(start, start.length());
            isNoText("d1;" + start, 3 + start.length());
            isNoText(start + "x", start.length());
            isNoText("s0*1;" + start + "x;d1;", 5 + start.length());
        }
        isNoText("x", 0);
        isNoText("d1;x", 3);
        isNoText("~", 0);
        isNoText(" ", 0);
        isNoText("d1;".repeat(19) + "d1x", 59);
        isNoText("d1;".repeat(19) + "d19", 59);
        isNoText("d1;".repeat(19) + "r0*", 60);
        isNoText("d1;".repeat(18) + "r0*999", 60);
    }

    // ---- history

    private static final List<Deed> CHANGES = List.of(x -> x.addPart(0, 1, 1, 0), x -> x.setBounds(0, 4, 8),
        x -> x.setYield(0, 51), x -> x.addSubstitute(1, 0), x -> x.removeSubstitute(0, 2), x -> x.addKit(2, 0, 9),
        x -> x.addKit(1, 0, 1), x -> x.request(0, 1), x -> x.request(1, 1), x -> x.take(0), x -> x.giveBack(0, 1, true),
        x -> x.giveBack(0, 1, false), x -> x.send(0, 1), x -> x.advance(1), x -> x.cancel(0));

    /** These return without an exception, and nothing that can be asked is otherwise then. */
    private static final List<Deed> WITHOUT_EFFECT = List.of(x -> x.setBounds(0, 3, 9), x -> x.setYield(0, 50));

    private static void changes() {
        Scene scene = Edges::busy;
        String before = Answers.ofWorld(busy());
        for (List<Deed> deeds : List.of(CHANGES, WITHOUT_EFFECT)) {
            for (Deed deed : deeds) {
                answers(scene, deed);
                SparePlanner x = scene.and(deed).get();
                due(Answers.ofWorld(scene.and(deed).get()).equals(before), deeds == WITHOUT_EFFECT);
                due(x.undo(), 7);
                due(Answers.ofWorld(x), before);
            }
        }
        Scene read = scene.and(x -> x.append(';'));
        due(read.get().read(), 2);
        SparePlanner x = read.and(SparePlanner::read).get();
        due(x.undo(), 7);
        due(Answers.ofWorld(x), before);
    }

    private static void eightChanges() {
        for (int changes = 0; changes <= 18; changes++) {
            SparePlanner x = stocks(1).get();
            x.undo();
            x.save();
            for (int i = 0; i < changes; i++) {
                due(i == 0 ? x.addPart(1, 1, 1, i) : x.setYield(0, i), Math.max(0, i - 1));
            }
            int remembered = Math.min(changes, 8);
            for (int i = remembered - 1; i >= 0; i--) {
                due(x.undo(), i);
                int left = changes - remembered + i;
                due(left == 0 ? x.count(0) : x.part(0, 6), Math.max(0, left - 1));
            }
            due(Check.outcome(x::undo), ELEMENT.getSimpleName());
        }
        whatUndoDoesNotTakeBack();
    }

    private static void whatUndoDoesNotTakeBack() {
        SparePlanner x = busy();
        x.advance(1);
        x.sample(1, 2, 0);
        x.save();
        Check.read(x, "d");
        Check.read(x, "g7*1;");
        Check.outcome(() -> x.send(0, 5));
        x.append('d');
        String rest = Answers.ofRest(x);
        for (int i = 7; i >= 0; i--) {
            due(x.undo(), i);
            due(Answers.ofRest(x), rest);
        }
        due(x.append('1'), 2);
        x.restore();
        due(x.count(5), 2);
    }

    private static void allAreForgotten() {
        for (Deed deed : List.<Deed>of(SparePlanner::clear, SparePlanner::restore)) {
            SparePlanner x = busy();
            deed.on(x);
            due(Check.outcome(x::undo), ELEMENT.getSimpleName());
            for (int i = 0; i < 9; i++) {
                x.advance(1);
            }
            due(x.undo(), 7);
        }
        refuses(STATE, stocks(1), SparePlanner::restore);
        due(stocks(1).tried(SparePlanner::restore).get().undo(), 0);
    }

    // ---- exceptions

    private static void refusedCallsChangeNothing() {
        Scene busy = Edges::busy;
        refuses(ARGUMENT, busy, x -> x.addPart(1000, 1, 1, 1));
        refuses(INDEX, busy, x -> x.setBounds(3, 1, 2));
        refuses(ARGUMENT, busy, x -> x.setBounds(0, 2, 1));
        refuses(ARGUMENT, busy, x -> x.setYield(0, 101));
        refuses(STATE, busy, x -> x.addSubstitute(0, 2));
        refuses(ARGUMENT, busy, x -> x.addSubstitute(1, 1));
        refuses(ELEMENT, busy, x -> x.removeSubstitute(0, 1));
        refuses(STATE, busy, x -> x.addKit(0, 0, 1));
        refuses(ARGUMENT, busy, x -> x.addKit(2, 0, 10));
        refuses(ARGUMENT, busy, x -> x.request(0, 1000));
        refuses(INDEX, busy, x -> x.cancel(2));
        refuses(INDEX, busy, x -> x.take(2));
        refusesButKeeps(UNSUPPORTED, busy, x -> x.take(1), "reason");
        refuses(ARGUMENT, busy, x -> x.giveBack(0, 0, true));
        refusesButKeeps(UNSUPPORTED, busy, x -> x.send(0, 5), "reason");
        refuses(ARGUMENT, busy, x -> x.advance(31));
        refuses(ARGUMENT, busy, x -> x.stockAfter(0, 31));
        refuses(ARGUMENT, busy, x -> x.taken(0, 0, 1000));
        refuses(INDEX, busy, x -> x.possible(2));
        refuses(INDEX, busy, x -> x.lacking(2));
        refuses(ARGUMENT, busy, x -> x.count(8));
        refuses(UNSUPPORTED, busy, x -> x.sample(0, 1, 0));
        refuses(ELEMENT, busy, x -> x.sampled(1, 2, 0));
        refuses(ARGUMENT, busy, x -> x.append((char) 127));
        refusesButKeeps(ARGUMENT, busy, SparePlanner::read, "input", "error position");
        refusesButKeeps(UNSUPPORTED, input("d1;g0*5;k2;"), SparePlanner::read, "input", "refused entry");
        refuses(ELEMENT, cleared(), SparePlanner::undo);
        refuses(STATE, waiting(2), SparePlanner::restore);
    }

    private static void theFirstIsThrown() {
        firstOfParts();
        firstOfRequestsAndRepairs();
        firstOfTheRest();
    }

    private static void firstOfParts() {
        Scene busy = Edges::busy;
        refuses(ARGUMENT, eightParts(), x -> x.addPart(1000, 1, 1, 1));
        refuses(ARGUMENT, eightParts(), x -> x.addPart(0, 1, 1, -1));
        refuses(INDEX, busy, x -> x.setBounds(3, 2, 1));
        refuses(INDEX, busy, x -> x.setBounds(3, -1, 1));
        refuses(INDEX, busy, x -> x.setBounds(-1, 1, 1000));
        refuses(INDEX, busy, x -> x.setYield(-1, 101));
        refuses(INDEX, busy, x -> x.addSubstitute(3, 3));
        refuses(INDEX, fourSubstitutes(), x -> x.addSubstitute(0, 6));
        refuses(ARGUMENT, fourSubstitutes(), x -> x.addSubstitute(0, 0));
        refuses(INDEX, busy, x -> x.removeSubstitute(0, 3));
        refuses(INDEX, busy, x -> x.removeSubstitute(3, 0));
        refuses(INDEX, busy, x -> x.addKit(0, 3, 0));
        refuses(INDEX, busy, x -> x.addKit(3, 0, 0));
        refuses(INDEX, fourKits(), x -> x.addKit(4, 5, 1));
        refuses(INDEX, fourKits(), x -> x.addKit(0, 5, 1));
        refuses(INDEX, fourKits(), x -> x.addKit(5, 0, 1));
        refuses(ARGUMENT, fourKits(), x -> x.addKit(4, 0, 0));
        refuses(ARGUMENT, fourKits(), x -> x.addKit(0, 4, 10));
        refuses(ARGUMENT, fourKits(), x -> x.addKit(1, 0, 10));
        refuses(INDEX, busy, x -> x.part(3, 10));
        refuses(INDEX, busy, x -> x.substitute(3, 4));
    }

    private static void firstOfRequestsAndRepairs() {
        Scene busy = Edges::busy;
        refuses(INDEX, busy, x -> x.request(3, 0));
        refuses(INDEX, waiting(12), x -> x.request(2, 1));
        refuses(ARGUMENT, waiting(12), x -> x.request(0, 0));
        refuses(ARGUMENT, waiting(12), x -> x.request(0, 1000));
        refuses(INDEX, busy, x -> x.taken(3, 0, 0));
        refuses(INDEX, busy, x -> x.taken(0, 3, 1000));
        refuses(INDEX, busy, x -> x.waiting(2, 5));
        refuses(INDEX, busy, x -> x.giveBack(3, 0, true));
        refuses(INDEX, busy, x -> x.send(3, 0));
        refuses(INDEX, repairs(12), x -> x.send(2, 1));
        refuses(ARGUMENT, busy, x -> x.send(0, 1000));
        refuses(ARGUMENT, repairs(12), x -> x.send(0, 0));
        SparePlanner x = refusesButKeeps(UNSUPPORTED, repairs(12), y -> y.send(0, 9), "reason");
        due(x.reason(0), 2);
        refuses(INDEX, busy, y -> y.repair(1, 3));
        refuses(INDEX, busy, y -> y.order(1, 3));
        refuses(INDEX, busy, y -> y.stockAfter(3, 31));
    }

    private static void firstOfTheRest() {
        Scene busy = Edges::busy;
        refuses(INDEX, busy, x -> x.movement(3, 8));
        refuses(INDEX, busy, x -> x.service(3));
        refuses(INDEX, busy, x -> x.serviceBits(3));
        refuses(ARGUMENT, stocks(1), x -> x.reason(3));
        refuses(INDEX, busy, x -> x.sample(0, 3, 0));
        refuses(INDEX, busy, x -> x.sample(0, 0, 3));
        refuses(INDEX, busy, x -> x.sampled(2, 0, 4));
        refuses(INDEX, busy, x -> x.sampled(0, 3, 4));
        refuses(ARGUMENT, busy, x -> x.sampled(1, 2, 4));
        refuses(ARGUMENT, input("d1;".repeat(20)), x -> x.append((char) 31));
        refusesButKeeps(ARGUMENT, input("k3;x"), SparePlanner::read, "input", "error position");
    }

    private static void questionsChangeNothing() {
        Scene busy = Edges::busy;
        onlyAnswers(3, busy, x -> x.count(0));
        onlyAnswers(6, busy, x -> x.part(0, 7));
        onlyAnswers(2, busy, x -> x.substitute(0, 0));
        onlyAnswers(3, busy, x -> x.relation(0, 2));
        onlyAnswers(2, busy, x -> x.item(0, 1, true));
        onlyAnswers(14, busy, x -> x.available(0));
        onlyAnswers(9, busy, x -> x.taken(0, 2, 999));
        onlyAnswers(2, busy, x -> x.waiting(1, 2));
        onlyAnswers(4, busy, x -> x.possible(0));
        onlyAnswers(109, busy, x -> x.lacking(1));
        onlyAnswers(3, busy, x -> x.repair(0, 2));
        onlyAnswers(3, busy, x -> x.order(0, 2));
        onlyAnswers(2, busy, x -> x.wanted(1));
        onlyAnswers(6, busy, x -> x.stockAfter(0, 30));
        onlyAnswers(7, busy, x -> x.movement(0, 3));
        onlyAnswers(0, busy, SparePlanner::audit);
        onlyAnswers(0f, busy, x -> x.service(1));
        onlyAnswers(0, busy, x -> x.serviceBits(1));
        onlyAnswers(1, busy, SparePlanner::weakest);
        onlyAnswers(0.0, busy, SparePlanner::averageService);
        onlyAnswers(0L, busy, SparePlanner::averageBits);
        onlyAnswers(9, busy, x -> x.reason(2));
        onlyAnswers(9, busy, x -> x.sampled(1, 0, 1));
        onlyAnswers(3, busy, SparePlanner::errorPosition);
        onlyAnswers(1, busy, SparePlanner::refused);
    }
}
