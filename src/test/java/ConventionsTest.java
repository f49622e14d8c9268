import java.util.function.ToIntFunction;

/** What the document says for all calls: constants, the order of errors, NONE, numbers from 0, sets, 512 calls. */
public final class ConventionsTest {
    private static final Checks CHECKS = new Checks("ConventionsTest");
    private static final int NO_SUCH = -1, BAD_VALUE = -2, BAD_TEXT = -3, TOO_MANY = -4, NOT_POSSIBLE = -5, NONE = -6;
    private static final int MOST_CALLS = 512;

    public static void main(String[] args) {
        CHECKS.sentence("NO_SUCH = -1, BAD_VALUE = -2, BAD_TEXT = -3, TOO_MANY = -4, NOT_POSSIBLE = -5, NONE = -6",
            ConventionsTest::constants);
        CHECKS.sentence("the first one that applies is returned: draw", ConventionsTest::errorsOfDraw);
        CHECKS.sentence("the first one that applies is returned: join", ConventionsTest::errorsOfJoin);
        CHECKS.sentence("the first one that applies is returned: rub", ConventionsTest::errorsOfRub);
        CHECKS.sentence("the first one that applies is returned: slide", ConventionsTest::errorsOfSlide);
        CHECKS.sentence("the first one that applies is returned: turn", ConventionsTest::errorsOfTurn);
        CHECKS.sentence("the first one that applies is returned: exchange", ConventionsTest::errorsOfExchange);
        CHECKS.sentence("the first one that applies is returned: end, panel, fold, hand, line",
            ConventionsTest::errorsOfLooks);
        CHECKS.sentence("the first one that applies is returned: bestSlide, ifTurned",
            ConventionsTest::errorsOfWhatIf);
        CHECKS.sentence("the first one that applies is returned: put", ConventionsTest::errorsOfPut);
        CHECKS.sentence("the first one that applies is returned: restore", ConventionsTest::errorsOfRestore);
        CHECKS.sentence("NONE (-6) is not an error; it is returned only if no error applies",
            ConventionsTest::noneIsNoError);
        CHECKS.sentence("Everything is numbered from 0", ConventionsTest::numberedFromZero);
        CHECKS.sentence("Sets are bit masks", ConventionsTest::setsAreMasks);
        CHECKS.sentence("An object is used for at most 512 calls", ConventionsTest::theLastCallStillAnswers);
        CHECKS.sentence("An object is used for at most 512 calls: as many changes",
            ConventionsTest::asManyChangesAsCanBe);
        CHECKS.sentence("what later calls answer is free (but they do not throw)",
            ConventionsTest::laterCallsDoNotThrow);
        CHECKS.sentence("what one object holds is not another one's", ConventionsTest::objectsAreApart);
        CHECKS.close();
    }

    private static void constants() {
        CHECKS.due("NO_SUCH", -1, FoldedStrips.NO_SUCH);
        CHECKS.due("BAD_VALUE", -2, FoldedStrips.BAD_VALUE);
        CHECKS.due("BAD_TEXT", -3, FoldedStrips.BAD_TEXT);
        CHECKS.due("TOO_MANY", -4, FoldedStrips.TOO_MANY);
        CHECKS.due("NOT_POSSIBLE", -5, FoldedStrips.NOT_POSSIBLE);
        CHECKS.due("NONE", -6, FoldedStrips.NONE);
    }

    // ---- two errors at once

    private static void errorsOfDraw() {
        FoldedStrips strips = new FoldedStrips();
        CHECKS.due("no panel, no hand, no text", NO_SUCH, strips.draw(6, 6));
        CHECKS.due("no panel, no text", NO_SUCH, strips.draw(-1, 0));
        CHECKS.due("no hand, no text", BAD_VALUE, strips.draw(0, 6));
        CHECKS.due("no hand below, no text", BAD_VALUE, strips.draw(0, -1));
        CHECKS.due("no text", BAD_TEXT, strips.draw(0, 0));
        Strips.putText(strips, "a|a");
        CHECKS.due("no panel, no hand", NO_SUCH, strips.draw(6, -1));
        CHECKS.due("no panel", NO_SUCH, strips.draw(6, 0));
        CHECKS.due("no hand", BAD_VALUE, strips.draw(0, 6));
        CHECKS.due("the text is still there", 1, strips.draw(0, 0));
    }

    private static void errorsOfJoin() {
        FoldedStrips strips = Strips.drawn(Strips.STRAIGHT);
        CHECKS.due("no panel, no ends, which are the same", NO_SUCH, strips.join(6, 24, 24));
        CHECKS.due("no panel, the same", NO_SUCH, strips.join(6, 0, 0));
        CHECKS.due("no panel below, the same", NO_SUCH, strips.join(-1, 23, 23));
        CHECKS.due("no ends, which are the same", NO_SUCH, strips.join(0, 24, 24));
        CHECKS.due("no ends below, which are the same", NO_SUCH, strips.join(0, -1, -1));
        CHECKS.due("no first end, the other one is taken", NO_SUCH, strips.join(0, 24, 0));
        CHECKS.due("no second end, the first one is taken", NO_SUCH, strips.join(0, 0, 24));
        CHECKS.due("no second end below, the first one is taken", NO_SUCH, strips.join(0, 23, -1));
        CHECKS.due("the same, which is taken", BAD_VALUE, strips.join(0, 0, 0));
        CHECKS.due("the same, which is taken, at the end", BAD_VALUE, strips.join(0, 23, 23));
        CHECKS.due("both are taken", NOT_POSSIBLE, strips.join(0, 0, 1));
    }

    private static void errorsOfRub() {
        FoldedStrips strips = new FoldedStrips();
        CHECKS.due("no panel, no end", NO_SUCH, strips.rub(6, 24));
        CHECKS.due("no panel, without a stroke", NO_SUCH, strips.rub(6, 0));
        CHECKS.due("no panel below, without a stroke", NO_SUCH, strips.rub(-1, 0));
        CHECKS.due("no end, without a stroke", NO_SUCH, strips.rub(0, 24));
        CHECKS.due("no end below, without a stroke", NO_SUCH, strips.rub(0, -1));
        CHECKS.due("without a stroke", NOT_POSSIBLE, strips.rub(0, 0));
    }

    private static void errorsOfSlide() {
        FoldedStrips strips = Strips.drawn(Strips.STRAIGHT);
        CHECKS.due("no panel, out of range", NO_SUCH, strips.slide(6, 0));
        CHECKS.due("no panel below, out of range", NO_SUCH, strips.slide(-1, 12));
        CHECKS.due("out of range, beyond the edge", BAD_VALUE, strips.slide(0, 12));
        CHECKS.due("out of range below, beyond the edge", BAD_VALUE, strips.slide(0, -12));
        CHECKS.due("0 of a full panel", BAD_VALUE, strips.slide(0, 0));
        CHECKS.due("beyond the edge", NOT_POSSIBLE, strips.slide(0, 11));
    }

    private static void errorsOfTurn() {
        FoldedStrips strips = new FoldedStrips();
        CHECKS.due("no panel, no such how", NO_SUCH, strips.turn(6, 3));
        CHECKS.due("no panel below, no such how", NO_SUCH, strips.turn(-1, -1));
        CHECKS.due("no such how", BAD_VALUE, strips.turn(5, 3));
    }

    private static void errorsOfExchange() {
        FoldedStrips strips = new FoldedStrips();
        CHECKS.due("no panels, which are the same", NO_SUCH, strips.exchange(6, 6));
        CHECKS.due("no panels below, which are the same", NO_SUCH, strips.exchange(-1, -1));
        CHECKS.due("the same", NOT_POSSIBLE, strips.exchange(5, 5));
    }

    private static void errorsOfLooks() {
        FoldedStrips strips = new FoldedStrips();
        strips.join(0, 0, 12);
        CHECKS.due("end: no panel, no such what", NO_SUCH, strips.end(6, 0, 4));
        CHECKS.due("end: no end, no such what", NO_SUCH, strips.end(0, 24, 4));
        CHECKS.due("end: no end below, no such what", NO_SUCH, strips.end(0, -1, -1));
        CHECKS.due("panel: no panel, no such what", NO_SUCH, strips.panel(6, 8));
        CHECKS.due("panel: no panel below, no such what", NO_SUCH, strips.panel(-1, -1));
        CHECKS.due("fold: no fold, no such what", NO_SUCH, strips.fold(5, 4));
        CHECKS.due("fold: no fold below, no such what", NO_SUCH, strips.fold(-1, -1));
        CHECKS.due("hand: no hand, no such what", NO_SUCH, strips.hand(6, 4));
        CHECKS.due("hand: no hand below, no such what", NO_SUCH, strips.hand(-1, -1));
        CHECKS.due("line: no line, no such what", NO_SUCH, strips.line(1, 6));
        CHECKS.due("line: no line below, no such what", NO_SUCH, strips.line(-1, -1));
        CHECKS.due("line: no such what", BAD_VALUE, strips.line(0, 6));
    }

    private static void errorsOfWhatIf() {
        FoldedStrips strips = new FoldedStrips();
        CHECKS.due("bestSlide: no panel, no such what", NO_SUCH, strips.bestSlide(6, 2));
        CHECKS.due("bestSlide: no panel below, no such what", NO_SUCH, strips.bestSlide(-1, -1));
        CHECKS.due("ifTurned: no panel, no such how", NO_SUCH, strips.ifTurned(6, 3, 0));
        CHECKS.due("ifTurned: no panel, no such what", NO_SUCH, strips.ifTurned(-1, 0, 3));
        CHECKS.due("ifTurned: no panel, nor anything else", NO_SUCH, strips.ifTurned(6, 3, 3));
        CHECKS.due("ifTurned: no such how, no such what", BAD_VALUE, strips.ifTurned(5, 3, 3));
    }

    private static void errorsOfPut() {
        FoldedStrips strips = new FoldedStrips();
        Strips.putText(strips, "a".repeat(60));
        CHECKS.due("none, in a full pad", BAD_VALUE, strips.put(0));
        CHECKS.due("a low code, in a full pad", BAD_VALUE, strips.put(32));
        CHECKS.due("a high code, in a full pad", BAD_VALUE, strips.put(127));
        CHECKS.due("a low code among others, in a full pad", BAD_VALUE, strips.put(0x612061));
        CHECKS.due("a bit above a hole, in a full pad", BAD_VALUE, strips.put(0x610061));
        CHECKS.due("the highest bit, in a full pad", BAD_VALUE, strips.put(Long.MIN_VALUE | 'a'));
        CHECKS.due("one, in a full pad", TOO_MANY, strips.put('a'));
    }

    private static void errorsOfRestore() {
        FoldedStrips strips = new FoldedStrips();
        CHECKS.due("no slot, in which nothing was saved", BAD_VALUE, strips.restore(2));
        CHECKS.due("no slot below, in which nothing was saved", BAD_VALUE, strips.restore(-1));
        CHECKS.due("nothing was saved", NOT_POSSIBLE, strips.restore(1));
    }

    // ---- other conventions

    private static void noneIsNoError() {
        FoldedStrips strips = Strips.drawn("a_b", "a^b");
        CHECKS.due("end without a stroke, no such what", BAD_VALUE, strips.end(0, 0, 4));
        CHECKS.due("end without a stroke, no such what below", BAD_VALUE, strips.end(0, 0, -1));
        CHECKS.due("end without a stroke of no panel", NO_SUCH, strips.end(6, 0, 0));
        CHECKS.due("end without a stroke that is not", NO_SUCH, strips.end(0, 24, 0));
        CHECKS.due("end without a stroke", NONE, strips.end(0, 0, 0));
        CHECKS.due("line of an end without a stroke", NONE, strips.end(0, 0, 2));
        CHECKS.due("crossings of an end without a stroke", NONE, strips.end(0, 0, 3));
        CHECKS.due("how an end without a stroke is", 0, strips.end(0, 0, 1));
        CHECKS.due("first end of a loop", NONE, strips.line(0, 4));
        CHECKS.due("second end of a loop", NONE, strips.line(0, 5));
        CHECKS.due("no such what of a loop", BAD_VALUE, strips.line(0, 6));
        CHECKS.due("first end of no line", NO_SUCH, strips.line(1, 4));
        Strips.putText(strips, "a|a");
        CHECKS.due("fault of a text without one", NONE, strips.fault());
    }

    private static void numberedFromZero() {
        FoldedStrips strips = new FoldedStrips();
        CHECKS.due("panel 0, ends 0 and 1", 1, strips.join(0, 0, 1));
        CHECKS.due("hand 0 of the panel 0", 0, strips.panel(0, 1));
        CHECKS.due("the line of the end 0", 0, strips.end(0, 0, 2));
        CHECKS.due("strokes of the line 0", 1, strips.line(0, 0));
        CHECKS.due("marks of the fold 0", 0, strips.fold(0, 0));
        CHECKS.due("panels of the hand 0", 1, strips.hand(0, 0));
        CHECKS.due("slot 0", 1, strips.save(0));
        CHECKS.due("the first character", 0, strips.fault());
    }

    private static void setsAreMasks() {
        for (int column = 0; column < 12; column++) {
            FoldedStrips strips = new FoldedStrips();
            strips.join(0, column, 12 + column);
            strips.join(1, column, 12 + column);
            strips.join(3, column, 12 + column);
            CHECKS.due("upper columns", 1 << column, strips.panel(0, 2));
            CHECKS.due("lower columns", 1 << column, strips.panel(0, 3));
            CHECKS.due("marks", 1 << column, strips.fold(0, 0));
            CHECKS.due("columns that meet", 1 << column, strips.fold(0, 1));
            CHECKS.due("faults of the kind 0", 1 << column, strips.fold(1, 2));
            CHECKS.due("faults of the kind 1", 1 << column, strips.fold(2, 3));
        }
        for (int panel = 0; panel < 6; panel++) {
            FoldedStrips strips = new FoldedStrips();
            strips.join(panel, 0, 1);
            CHECKS.due("panels of a hand", 1 << panel, strips.hand(panel, 0));
            CHECKS.due("panels of a line", 1 << panel, strips.line(0, 2));
            CHECKS.due("hands of a line", 1 << panel, strips.line(0, 3));
        }
    }

    // ---- 512 calls

    /** An object after 511 calls. */
    private static FoldedStrips atItsLastCall() {
        FoldedStrips strips = new FoldedStrips();
        for (int call = 0; call < 502; call++) {
            strips.clear(call % 6);
        }
        strips.join(0, 0, 13);
        strips.join(1, 1, 12);
        strips.join(1, 0, 14);
        strips.join(2, 4, 5);
        strips.save(1);
        strips.clear(2);
        strips.count(1);
        strips.count(7);
        strips.put(Strips.packed("k_"));
        return strips;
    }

    private static void last(String call, int want, ToIntFunction<FoldedStrips> asked) {
        CHECKS.due("the last call: " + call, want, asked.applyAsInt(atItsLastCall()));
    }

    private static void theLastCallStillAnswers() {
        last("draw", BAD_TEXT, strips -> strips.draw(0, 0));
        last("join", 2, strips -> strips.join(0, 23, 1));
        last("rub", 1, strips -> strips.rub(1, 12));
        last("clear", 2, strips -> strips.clear(1));
        last("slide", 3, strips -> strips.slide(1, 1));
        last("turn", 5, strips -> strips.turn(1, 1));
        last("exchange", 5, strips -> strips.exchange(1, 2));
        last("takeUp", 2, strips -> strips.takeUp(2));
        last("end", 13, strips -> strips.end(0, 0, 0));
        last("panel", 5, strips -> strips.panel(1, 3));
        last("fold", 2, strips -> strips.fold(0, 1));
        last("hand", 2, strips -> strips.hand(2, 2));
        last("line", 2, strips -> strips.line(0, 0));
        last("count", 6, strips -> strips.count(10));
        last("bestSlide", 20, strips -> strips.bestSlide(1, 0));
        last("bestExchange", 1, strips -> strips.bestExchange(0));
        last("ifTurned", 5, strips -> strips.ifTurned(1, 1, 0));
        last("put", 3, strips -> strips.put('a'));
        last("wipe", 2, FoldedStrips::wipe);
        last("fault", 2, FoldedStrips::fault);
        last("undo", 5, FoldedStrips::undo);
        last("save", 3, strips -> strips.save(0));
        last("restore", 4, strips -> strips.restore(1));
    }

    private static void asManyChangesAsCanBe() {
        FoldedStrips strips = new FoldedStrips();
        for (int call = 0; call < MOST_CALLS - 8; call++) {
            int end = call / 2 % 12;
            int due = call % 2 == 0 ? 1 : end;
            CHECKS.due("change " + call, due, call % 2 == 0 ? strips.join(5, end, 12) : strips.rub(5, 12));
        }
        CHECKS.due("changes", 6, strips.count(10));
        for (int left = 5; left >= 0; left--) {
            CHECKS.due("undo", left, strips.undo());
        }
        CHECKS.due("undo of the oldest one", NOT_POSSIBLE, strips.undo());
    }

    private static void laterCallsDoNotThrow() {
        FoldedStrips strips = Strips.drawnAll(Strips.CROSSED);
        for (int round = 0; round < 100; round++) {
            Strips.putText(strips, "a|a;b|");
            strips.draw(round % 8 - 1, round % 7);
            strips.join(round % 6, round % 24, 23 - round % 24);
            strips.rub(round % 6, round % 25);
            strips.slide(round % 6, round % 23 - 11);
            strips.turn(round % 6, round % 3);
            strips.exchange(round % 6, round % 5);
            strips.takeUp(round % 7);
            strips.line(round % 43, round % 7);
            strips.bestSlide(round % 6, round % 2);
            strips.bestExchange(round % 2);
            strips.save(round % 3);
            strips.restore(round % 2);
            strips.undo();
        }
        CHECKS.due("a new object answers as before", 0, new FoldedStrips().count(0));
    }

    private static void objectsAreApart() {
        FoldedStrips strips = new FoldedStrips();
        FoldedStrips other = new FoldedStrips();
        strips.join(0, 0, 12);
        strips.save(0);
        Strips.putText(strips, "a|a");
        CHECKS.due("strokes", 0, other.count(0));
        CHECKS.due("the pad", 0, other.count(9));
        CHECKS.due("changes", 0, other.count(10));
        CHECKS.due("slots", NOT_POSSIBLE, other.restore(0));
        other.join(5, 0, 12);
        other.clear(5);
        CHECKS.due("strokes of the first one", 1, strips.count(0));
        CHECKS.due("changes of the first one", 1, strips.count(10));
        CHECKS.due("the pad of the first one", 3, strips.count(9));
    }
}
