import java.util.List;
import java.util.function.Supplier;
import java.util.function.ToIntFunction;

/** Each error of each call, in objects that are new, in use and full: the error, and that nothing is different then. */
public final class RefusalsTest {
    private static final Checks CHECKS = new Checks("RefusalsTest");
    private static final int NO_SUCH = -1, BAD_VALUE = -2, BAD_TEXT = -3, TOO_MANY = -4, NOT_POSSIBLE = -5;
    private static final long[] NOT_CHARACTERS = {0, 32, 127, 255, 256, 0x6100, 0x610061, 0x6120, 0x2061, -1,
        Long.MIN_VALUE, Long.MAX_VALUE, 0x100000061L, 0x8000000000000061L, 0x6161616161616180L};

    private final String state;
    private final Supplier<FoldedStrips> made;

    private RefusalsTest(String state, Supplier<FoldedStrips> made) {
        this.state = state;
        this.made = made;
    }

    public static void main(String[] args) {
        CHECKS.sentence("A call that returns an error changes nothing: a new object", RefusalsTest::ofANewObject);
        CHECKS.sentence("A call that returns an error changes nothing: an object in use", RefusalsTest::ofOneInUse);
        CHECKS.sentence("A call that returns an error changes nothing: a full object", RefusalsTest::ofAFullOne);
        CHECKS.sentence("A call that returns an error changes nothing: the pad is full", RefusalsTest::ofAFullPad);
        CHECKS.sentence("A call that returns an error changes nothing: a text with a fault", RefusalsTest::ofBadTexts);
        CHECKS.close();
    }

    private void refused(String call, int error, ToIntFunction<FoldedStrips> asked) {
        CHECKS.due(state + ": " + call, error, asked.applyAsInt(made.get()));
        CHECKS.holds(state + ": " + call + " changes nothing", Strips.holdsTheSame(made, asked::applyAsInt));
    }

    // ---- objects

    private static void ofANewObject() {
        RefusalsTest test = new RefusalsTest("new", FoldedStrips::new);
        test.whatIsAlwaysRefused();
        test.refused("draw of an empty pad", BAD_TEXT, strips -> strips.draw(0, 0));
        test.refused("draw of an empty pad on the last panel", BAD_TEXT, strips -> strips.draw(5, 5));
        test.refused("rub of an end without a stroke", NOT_POSSIBLE, strips -> strips.rub(0, 0));
        test.refused("rub of the last end without a stroke", NOT_POSSIBLE, strips -> strips.rub(5, 23));
        test.refused("undo of nothing", NOT_POSSIBLE, FoldedStrips::undo);
        test.refused("restore of a slot that was not saved", NOT_POSSIBLE, strips -> strips.restore(0));
        test.refused("restore of the last slot that was not saved", NOT_POSSIBLE, strips -> strips.restore(1));
        test.refused("line 0 without any", NO_SUCH, strips -> strips.line(0, 0));
    }

    private static FoldedStrips inUse() {
        FoldedStrips strips = new FoldedStrips();
        Strips.drawText(strips, 0, 4, "a|b;c^d;a_l");
        strips.save(0);
        strips.join(1, 1, 2);
        strips.join(3, 0, 23);
        strips.save(1);
        strips.exchange(1, 2);
        Strips.putText(strips, "c|d;l|");
        return strips;
    }

    private static void ofOneInUse() {
        RefusalsTest test = new RefusalsTest("in use", RefusalsTest::inUse);
        test.whatIsAlwaysRefused();
        test.refused("draw of a text that is too short", BAD_TEXT, strips -> strips.draw(2, 3));
        test.refused("join of a first end with a stroke", NOT_POSSIBLE, strips -> strips.join(0, 0, 4));
        test.refused("join of a second end with a stroke", NOT_POSSIBLE, strips -> strips.join(0, 4, 23));
        test.refused("join of two ends with one stroke", NOT_POSSIBLE, strips -> strips.join(0, 2, 3));
        test.refused("join of two ends with two strokes", NOT_POSSIBLE, strips -> strips.join(0, 0, 2));
        test.refused("rub of an end without a stroke", NOT_POSSIBLE, strips -> strips.rub(0, 4));
        test.refused("slide beyond the left edge", NOT_POSSIBLE, strips -> strips.slide(2, -2));
        test.refused("slide beyond the right edge", NOT_POSSIBLE, strips -> strips.slide(2, 10));
        test.refused("line that is one too many", NO_SUCH, strips -> strips.line(strips.count(1), 0));
    }

    private static FoldedStrips full() {
        FoldedStrips strips = Strips.drawnAll(Strips.ARCS);
        strips.save(0);
        strips.turn(5, 2);
        strips.save(1);
        strips.exchange(0, 5);
        Strips.putText(strips, Strips.CROSSED);
        return strips;
    }

    private static void ofAFullOne() {
        RefusalsTest test = new RefusalsTest("full", RefusalsTest::full);
        test.whatIsAlwaysRefused();
        test.refused("join of ends that are taken", NOT_POSSIBLE, strips -> strips.join(0, 0, 23));
        test.refused("join of the last ends, which are taken", NOT_POSSIBLE, strips -> strips.join(5, 22, 23));
        test.refused("slide to the right", NOT_POSSIBLE, strips -> strips.slide(0, 1));
        test.refused("slide to the left", NOT_POSSIBLE, strips -> strips.slide(5, -1));
        test.refused("slide far to the right", NOT_POSSIBLE, strips -> strips.slide(5, 11));
        test.refused("slide far to the left", NOT_POSSIBLE, strips -> strips.slide(0, -11));
        test.refused("line 42 of 42", NO_SUCH, strips -> strips.line(42, 0));
    }

    private static FoldedStrips withPad(String text) {
        FoldedStrips strips = inUse();
        strips.wipe();
        Strips.putText(strips, text);
        return strips;
    }

    private static void ofAFullPad() {
        String most = Strips.STRAIGHT + "-".repeat(13);
        RefusalsTest full = new RefusalsTest("a pad with 60 characters", () -> withPad(most));
        full.refused("put of one more", TOO_MANY, strips -> strips.put('a'));
        full.refused("put of eight more", TOO_MANY, strips -> strips.put(Strips.packed("abcdefgh")));
        full.refused("put of none", BAD_VALUE, strips -> strips.put(0));
        full.refused("put of a code that is too low", BAD_VALUE, strips -> strips.put(32));
        full.refused("put of a code that is too high", BAD_VALUE, strips -> strips.put(127));
        full.refused("put of bits above a hole", BAD_VALUE, strips -> strips.put(0x610061));
        full.refused("draw of what is too long", BAD_TEXT, strips -> strips.draw(0, 0));
        RefusalsTest almost = new RefusalsTest("a pad with 59 characters", () -> withPad(most.substring(1)));
        almost.refused("put of two more", TOO_MANY, strips -> strips.put(Strips.packed("ab")));
    }

    private static void ofBadTexts() {
        List<String> texts = List.of("a", "a|", "a|a;", "m", "a|a;a|b", Strips.STRAIGHT + ";", "b^a");
        for (String text : texts) {
            RefusalsTest test = new RefusalsTest("the pad " + text, () -> withPad(text));
            test.refused("draw", BAD_TEXT, strips -> strips.draw(1, 1));
            test.refused("draw of a hand that is not", BAD_VALUE, strips -> strips.draw(1, 6));
            test.refused("draw on a panel that is not", NO_SUCH, strips -> strips.draw(6, 6));
        }
    }

    // ---- arguments

    private void whatIsAlwaysRefused() {
        panelsThatAreNot(-1);
        panelsThatAreNot(6);
        endsThatAreNot(-1);
        endsThatAreNot(24);
        valuesBelow();
        valuesAbove();
        for (int out : Strips.FAR_OUT) {
            panelsThatAreNot(out);
            endsThatAreNot(out);
            valuesThatAreNot(out);
        }
        refused("join of the same", BAD_VALUE, strips -> strips.join(0, 0, 0));
        refused("join of the same, at the end", BAD_VALUE, strips -> strips.join(5, 23, 23));
        refused("slide by 0", BAD_VALUE, strips -> strips.slide(0, 0));
        refused("exchange of the same", NOT_POSSIBLE, strips -> strips.exchange(0, 0));
        refused("exchange of the same, at the bottom", NOT_POSSIBLE, strips -> strips.exchange(5, 5));
        refused("takeUp of the panel 0", NO_SUCH, strips -> strips.takeUp(0));
        for (long number : NOT_CHARACTERS) {
            refused("put of " + Long.toHexString(number), BAD_VALUE, strips -> strips.put(number));
        }
    }

    private void panelsThatAreNot(int panel) {
        String of = " of the panel " + panel;
        refused("draw" + of, NO_SUCH, strips -> strips.draw(panel, 0));
        refused("join" + of, NO_SUCH, strips -> strips.join(panel, 4, 5));
        refused("rub" + of, NO_SUCH, strips -> strips.rub(panel, 0));
        refused("clear" + of, NO_SUCH, strips -> strips.clear(panel));
        refused("slide" + of, NO_SUCH, strips -> strips.slide(panel, 1));
        refused("turn" + of, NO_SUCH, strips -> strips.turn(panel, 0));
        refused("exchange" + of, NO_SUCH, strips -> strips.exchange(panel, 0));
        refused("exchange with" + of, NO_SUCH, strips -> strips.exchange(5, panel));
        refused("takeUp" + of, NO_SUCH, strips -> strips.takeUp(panel));
        refused("end" + of, NO_SUCH, strips -> strips.end(panel, 0, 0));
        refused("panel" + of, NO_SUCH, strips -> strips.panel(panel, 0));
        refused("bestSlide" + of, NO_SUCH, strips -> strips.bestSlide(panel, 0));
        refused("ifTurned" + of, NO_SUCH, strips -> strips.ifTurned(panel, 0, 0));
    }

    private void endsThatAreNot(int end) {
        refused("join of the end " + end, NO_SUCH, strips -> strips.join(4, end, 5));
        refused("join with the end " + end, NO_SUCH, strips -> strips.join(4, 5, end));
        refused("rub of the end " + end, NO_SUCH, strips -> strips.rub(4, end));
        refused("end of the end " + end, NO_SUCH, strips -> strips.end(4, end, 0));
    }

    private void valuesBelow() {
        refused("fold -1", NO_SUCH, strips -> strips.fold(-1, 0));
        refused("line -1", NO_SUCH, strips -> strips.line(-1, 0));
        refused("slide by -12", BAD_VALUE, strips -> strips.slide(0, -12));
        whatsThatAreNot(-1, -1, -1, -1);
    }

    private void valuesAbove() {
        refused("fold 5", NO_SUCH, strips -> strips.fold(5, 0));
        refused("line 43", NO_SUCH, strips -> strips.line(43, 0));
        refused("slide by 12", BAD_VALUE, strips -> strips.slide(0, 12));
        whatsThatAreNot(2, 3, 4, 6);
        refused("panel, 8", BAD_VALUE, strips -> strips.panel(0, 8));
        refused("count, 11", BAD_VALUE, strips -> strips.count(11));
    }

    private void valuesThatAreNot(int out) {
        refused("fold " + out, NO_SUCH, strips -> strips.fold(out, 0));
        refused("line " + out, NO_SUCH, strips -> strips.line(out, 0));
        refused("slide by " + out, BAD_VALUE, strips -> strips.slide(0, out));
        whatsThatAreNot(out, out, out, out);
        refused("panel, " + out, BAD_VALUE, strips -> strips.panel(0, out));
        refused("count, " + out, BAD_VALUE, strips -> strips.count(out));
    }

    /** Numbers that are beyond two slots, three turns, four questions and six hands. */
    private void whatsThatAreNot(int two, int three, int four, int six) {
        refused("draw of the hand " + six, BAD_VALUE, strips -> strips.draw(0, six));
        refused("hand " + six, NO_SUCH, strips -> strips.hand(six, 0));
        refused("turn, " + three, BAD_VALUE, strips -> strips.turn(0, three));
        refused("end, " + four, BAD_VALUE, strips -> strips.end(0, 0, four));
        refused("fold, " + four, BAD_VALUE, strips -> strips.fold(0, four));
        refused("hand, " + four, BAD_VALUE, strips -> strips.hand(0, four));
        refused("bestSlide, " + two, BAD_VALUE, strips -> strips.bestSlide(0, two));
        refused("bestExchange, " + two, BAD_VALUE, strips -> strips.bestExchange(two));
        refused("ifTurned by " + three, BAD_VALUE, strips -> strips.ifTurned(0, three, 0));
        refused("ifTurned, " + three, BAD_VALUE, strips -> strips.ifTurned(0, 0, three));
        refused("save in the slot " + two, BAD_VALUE, strips -> strips.save(two));
        refused("restore of the slot " + two, BAD_VALUE, strips -> strips.restore(two));
    }
}
