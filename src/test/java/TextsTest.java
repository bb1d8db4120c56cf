import java.util.NoSuchElementException;

/** Promises 37 to 42: samples on shelves, the input, texts that are right, wrong or refused. */
final class TextsTest {
    private static final Class<?> INDEX = IndexOutOfBoundsException.class;
    private static final Class<?> ARGUMENT = IllegalArgumentException.class;
    private static final Class<?> STATE = IllegalStateException.class;
    private static final Class<?> UNSUPPORTED = UnsupportedOperationException.class;
    private static final Class<?> ELEMENT = NoSuchElementException.class;

    public static void main(String[] args) {
        samplesAreCopies();
        samplesReplaceOthers();
        samplesAreRefused();
        samplesAreTold();
        charactersAreAppended();
        charactersAreRefused();
        entriesDoWhatCallsDo();
        textsAreOneChange();
        errorPositionsAreTold();
        wrongTextsDoNothing();
        wordsOfAllLengthsAreRead();
        refusedTextsDoNothing();
        refusedTextsKeepReasons();
        keptNumbersStay();
        Check.end("TextsTest");
    }

    private static void samplesAreCopies() {
        Recorded x = new Recorded();
        x.addPart(5, 9, 1, 100);
        x.addPart(2, 9, 1, 100);
        x.advance(3);
        x.request(1, 6);
        Check.due("sample", x.sample(1, 2, 1), 1);
        Check.due("another sample", x.sample(1, 0, 0), 2);
        String rest = Answers.ofRest(x.again());
        x.giveBack(1, 9, true);
        x.advance(1);
        x.undo();
        x.clear();
        Check.same("the sample stays as it was", Answers.ofRest(x.again()), rest);
        int[][] due = {{0, 5, 5, 3}, {1, 0, -4, 3}};
        for (int what = 0; what < 4; what++) {
            Check.due("sampled(1, 0, " + what + ")", x.sampled(1, 0, what), due[0][what]);
            Check.due("sampled(1, 2, " + what + ")", x.sampled(1, 2, what), due[1][what]);
        }
    }

    private static void samplesReplaceOthers() {
        Recorded x = new Recorded();
        x.addPart(5, 9, 1, 100);
        x.addPart(2, 9, 1, 100);
        x.setBounds(0, 6, 6);
        Check.due("one place", x.sample(0, 1, 0), 1);
        Check.due("one place of the other shelf", x.sample(1, 0, 1), 1);
        Check.due("two places", x.sample(1, 1, 0), 2);
        Check.due("still two places", x.sample(1, 0, 0), 2);
        Check.due("the new sample", x.sampled(1, 0, 0), 0);
        Check.due("three places", x.sample(1, 2, 1), 3);
        Check.due("two places of shelf 0", x.sample(0, 0, 0), 2);
        Check.due("three places of shelf 0", x.sample(0, 2, 0), 3);
        Check.same("a sample is no change: undo undoes setBounds", Check.outcome(x::undo), "2");
        Check.due("the lower bound", x.part(0, 2), 0);
    }

    private static void samplesAreRefused() {
        Recorded x = new Recorded();
        x.addPart(5, 9, 1, 100);
        Check.refuses(x, "shelf 2", INDEX, () -> x.sample(2, 0, 0));
        Check.refuses(x, "shelf -1", INDEX, () -> x.sample(-1, 0, 0));
        Check.refuses(x, "place 3", INDEX, () -> x.sample(0, 3, 0));
        Check.refuses(x, "place -1", INDEX, () -> x.sample(1, -1, 0));
        Check.refuses(x, "part 1 of 1", INDEX, () -> x.sample(0, 0, 1));
        Check.refuses(x, "part -1", INDEX, () -> x.sample(1, 0, -1));
        x.setBounds(0, 5, 5);
        Check.refuses(x, "a position that is the lower bound", UNSUPPORTED, () -> x.sample(0, 0, 0));
        Check.due("shelf 1 holds it", x.sample(1, 0, 0), 1);
        x.setBounds(0, 6, 6);
        Check.due("a position below the lower bound", x.sample(0, 0, 0), 1);
        x.advance(1);
        Check.refuses(x, "a position with an order", UNSUPPORTED, () -> x.sample(0, 0, 0));
        Check.due("the sample that stays", x.sampled(0, 0, 2), 5);
    }

    private static void samplesAreTold() {
        Recorded x = new Recorded();
        x.addPart(5, 9, 1, 100);
        x.sample(1, 0, 0);
        Check.refuses(x, "shelf 2", INDEX, () -> x.sampled(2, 0, 4));
        Check.refuses(x, "shelf -1", INDEX, () -> x.sampled(-1, 0, 0));
        Check.refuses(x, "place 3", INDEX, () -> x.sampled(1, 3, 0));
        Check.refuses(x, "place -1", INDEX, () -> x.sampled(1, -1, 0));
        Check.refuses(x, "what 4 of an empty place", ARGUMENT, () -> x.sampled(1, 1, 4));
        Check.refuses(x, "what -1", ARGUMENT, () -> x.sampled(1, 0, -1));
        Check.refuses(x, "an empty place", ELEMENT, () -> x.sampled(1, 1, 0));
        Check.refuses(x, "the same place of the other shelf", ELEMENT, () -> x.sampled(0, 0, 0));
    }

    private static void charactersAreAppended() {
        Recorded x = new Recorded();
        for (int length = 1; length <= 60; length++) {
            Check.due("append", x.append((char) (length % 2 == 0 ? 32 : 126)), length);
        }
        Check.refuses(x, "a 61st character", STATE, () -> x.append('d'));
        Check.refuses(x, "a wrong 61st character", ARGUMENT, () -> x.append((char) 127));
        Check.same("read", Check.outcome(x::read), "IllegalArgumentException");
        Check.due("the input is empty behind read", x.append('d'), 1);
    }

    private static void charactersAreRefused() {
        Recorded x = new Recorded();
        for (int code : new int[] {0, 10, 31, 127, 128, 160, 255, 256, 65535}) {
            Check.refuses(x, "character " + code, ARGUMENT, () -> x.append((char) code));
        }
        Check.due("none was appended", x.append(' '), 1);
    }

    private static Recorded filled() {
        Recorded x = new Recorded();
        for (int part = 0; part < 8; part++) {
            x.addPart(20 + part, 2, 2, 50);
        }
        x.addSubstitute(7, 0);
        x.setBounds(3, 30, 40);
        x.addKit(0, 1, 3);
        x.addKit(1, 2, 4);
        x.addKit(2, 2, 1);
        x.addKit(3, 7, 5);
        return x;
    }

    private static void entriesDoWhatCallsDo() {
        Recorded x = filled();
        Recorded y = filled();
        Check.same("read", Check.read(x, "r7*40;g1*3;b2*12;s2*10;k1;d3;r0*999;b7*1;d9;"), "9");
        y.request(7, 40);
        y.giveBack(1, 3, true);
        y.giveBack(2, 12, false);
        y.send(2, 10);
        y.take(1);
        y.advance(3);
        y.request(0, 999);
        y.giveBack(7, 1, false);
        y.advance(9);
        Check.same("all answers behind the text", Answers.ofWorld(x.again()), Answers.ofWorld(y.again()));
        for (int kit = 0; kit < 4; kit++) {
            int asked = kit;
            Check.same("kit " + kit, Check.read(x, "k" + kit + ";"), Check.outcome(() -> {
                y.take(asked);
                return 1;
            }));
        }
        for (int digit = 1; digit < 10; digit++) {
            int day = x.count(5);
            Check.same("so many days", Check.read(x, "d" + digit + ";"), "1");
            Check.due("the day", x.count(5), day + digit);
        }
        for (int part = 0; part < 8; part++) {
            int broken = x.part(part, 1);
            Check.same("broken pieces", Check.read(x, "b" + part + "*" + (part + 1) + ";"), "1");
            Check.due("of this part", x.part(part, 1), broken + part + 1);
        }
    }

    private static void textsAreOneChange() {
        Recorded x = filled();
        String before = Answers.ofWorld(x.again());
        Check.same("read", Check.read(x, "d1;g0*5;k0;r0*2;"), "4");
        Check.due("undo", x.undo(), 7);
        Check.same("all answers behind undo", Answers.ofWorld(x.again()), before);
        Check.same("a refused text", Check.read(x, "d1;r0*999;s0*1;"), "UnsupportedOperationException");
        Check.same("a wrong text", Check.read(x, "d1;r0*999;s0*1"), "IllegalArgumentException");
        Check.due("no change then", x.undo(), 6);
    }

    private static void errorPositionsAreTold() {
        String[] texts = {"", "x", "R0*1;", " d1;", "d", "d1", "d0;", "d10;", "d1;;", "d1; ", "d1;d", "r", "r0", "r0*",
            "r0*1", "r0*12", "r0*123", "r0*1234;", "r8*1;", "r0x1;", "r0*0;", "r0*;", "r0*01;", "r0*1x;", "r0*12x",
            "r0*123x", "k4;", "k", "k0", "k00;", "k0*1;", "g-1*1;", "b0**1;", "s0*1;r0*1;k3;d9;g", "d1;r0*1;k9;", "*",
            ";", "0", "s7*999;b7*1000;", "d:;", "d/;", "r0*1:", "r0*1/", "r0*:", "r0*/", "r/*1;", "k/;"};
        int[] due = {0, 0, 0, 0, 1, 2, 1, 2, 3, 3, 4, 1, 2, 3,
            4, 5, 6, 6, 1, 2, 3, 3, 3, 4, 5,
            6, 1, 1, 2, 2, 2, 1, 3, 17, 9, 0,
            0, 0, 13, 1, 1, 4, 4, 3, 3, 1, 1};
        for (int i = 0; i < texts.length; i++) {
            errorPositionIs(texts[i], due[i]);
        }
        errorPositionIs("d1;".repeat(19) + "d1:", 59);
        errorPositionIs("d1;".repeat(19) + "r0*", 60);
    }

    private static void errorPositionIs(String text, int due) {
        Recorded x = filled();
        Check.append(x, text);
        Check.refusesButKeeps(x, "read of '" + text + "'", ARGUMENT, x::read);
        Check.due("errorPosition of '" + text + "'", x.errorPosition(), due);
    }

    private static void wrongTextsDoNothing() {
        Recorded x = filled();
        Check.append(x, "r0*5;d9;x");
        Check.refusesButKeeps(x, "read", ARGUMENT, x::read);
        Check.due("the input is empty", x.append('d'), 1);
        Check.refuses(x, "no entry was refused", ELEMENT, x::refused);
        Check.refuses(x, "no reason was kept", ELEMENT, () -> x.reason(0));
    }

    private static void wordsOfAllLengthsAreRead() {
        Recorded x = filled();
        Check.same("20 entries", Check.read(x, "d1;".repeat(20)), "20");
        Check.due("the day", x.count(5), 20);
        int stock = x.part(0, 0);
        Check.same("8 entries", Check.read(x, "g0*1;g0*10;g0*109;g0*990;g0*999;g0*9;g0*90;g0*7;d1;d2;d3;"), "11");
        Check.due("all digits", x.part(0, 0), stock + 1 + 10 + 109 + 990 + 999 + 9 + 90 + 7);
    }

    private static void refusedTextsDoNothing() {
        Recorded x = new Recorded();
        x.addPart(5, 1, 1, 100);
        x.addKit(0, 0, 6);
        String[] texts = {"r1*1;", "d1;g7*1;", "d1;d1;b1*1;", "g0*1;k1;", "g0*1;r0*1;k0;", "b0*1;d1;s0*2;", "s1*1;", "k0;d1;"};
        int[] due = {0, 1, 2, 1, 2, 2, 0, 0};
        for (int i = 0; i < texts.length; i++) {
            Check.append(x, texts[i]);
            Check.refusesButKeeps(x, "read of '" + texts[i] + "'", UNSUPPORTED, x::read);
            Check.due("refused of '" + texts[i] + "'", x.refused(), due[i]);
            Check.due("the input is empty", x.append('d'), 1);
            Check.same("read", Check.outcome(x::read), "IllegalArgumentException");
        }
        Check.same("a kit behind good pieces", Check.read(x, "g0*1;k0;"), "2");
        Check.same("broken pieces before they are sent", Check.read(x, "b0*2;s0*2;d1;"), "3");
        Check.due("the stock", x.part(0, 0), 2);
    }

    private static void refusedTextsKeepReasons() {
        Recorded x = new Recorded();
        x.addPart(5, 9, 1, 100);
        x.addPart(0, 9, 1, 100);
        x.addKit(0, 0, 6);
        Check.same("a part that there is not", Check.read(x, "r2*1;"), "UnsupportedOperationException");
        Check.refuses(x, "no reason", ELEMENT, () -> x.reason(0));
        Check.same("a kit that cannot be taken", Check.read(x, "r0*2;k0;"), "UnsupportedOperationException");
        Check.due("the reason", x.reason(0), 3);
        Check.due("the part", x.reason(1), 0);
        Check.due("missing behind the entry before", x.reason(2), 3);
        for (String text : new String[] {"r2*1;", "g3*1;", "b4*1;", "s5*1;", "k1;", "x"}) {
            Check.read(x, text);
            Check.due("another cause keeps the reason", x.reason(2), 3);
        }
        Check.same("too few broken pieces", Check.read(x, "b0*1;s0*2;"), "UnsupportedOperationException");
        Check.due("the reason", x.reason(0), 2);
        Check.same("12 requests", Check.read(x, "r1*1;".repeat(12)), "12");
        Check.same("a thirteenth one", Check.read(x, "r0*5;r1*1;"), "UnsupportedOperationException");
        Check.due("the reason", x.reason(0), 1);
        Check.due("refused", x.refused(), 1);
        x.giveBack(1, 13, false);
        Check.same("12 repairs", Check.read(x, "s1*1;".repeat(12)), "12");
        Check.same("too many broken pieces", Check.read(x, "s1*2;"), "UnsupportedOperationException");
        Check.due("the reason told first", x.reason(0), 2);
        Check.same("a thirteenth repair", Check.read(x, "s1*1;"), "UnsupportedOperationException");
        Check.due("the reason", x.reason(0), 1);
        Check.same("behind a day", Check.read(x, "d1;s1*1;"), "2");
    }

    private static void keptNumbersStay() {
        Recorded x = new Recorded();
        Check.refuses(x, "no error position", ELEMENT, x::errorPosition);
        Check.refuses(x, "no refused entry", ELEMENT, x::refused);
        Check.read(x, "d1;d1;x");
        Check.refuses(x, "still no refused entry", ELEMENT, x::refused);
        Check.read(x, "d1;k0;");
        Check.same("a right text", Check.read(x, "d1;"), "1");
        x.save();
        x.undo();
        x.restore();
        Check.due("errorPosition stays", x.errorPosition(), 6);
        Check.due("refused stays", x.refused(), 1);
        Check.read(x, "k");
        Check.due("the next one", x.errorPosition(), 1);
        Check.due("refused stays behind a wrong text", x.refused(), 1);
        Check.read(x, "k0;");
        Check.due("the next one", x.refused(), 0);
        Check.due("errorPosition stays behind a refused text", x.errorPosition(), 1);
    }
}
