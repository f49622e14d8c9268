import java.util.List;
import java.util.function.Supplier;
import java.util.function.ToIntFunction;

/** Promises 1 to 9 at their edges: a new object, draw, join, rub, clear, slide, turn, exchange, takeUp. */
public final class EdgesOfChangesTest {
    private static final Checks CHECKS = new Checks("EdgesOfChangesTest");
    private static final int NO_SUCH = -1, BAD_VALUE = -2, BAD_TEXT = -3, NOT_POSSIBLE = -5, NONE = -6;

    public static void main(String[] args) {
        CHECKS.sentence("FoldedStrips(): Creates panels without strokes", EdgesOfChangesTest::newPanels);
        CHECKS.sentence("FoldedStrips(): nothing on the pad, to undo, in the slots", EdgesOfChangesTest::newRest);
        sentencesOfDraw();
        sentencesOfJoin();
        sentencesOfRubAndClear();
        sentencesOfSlide();
        sentencesOfTurn();
        sentencesOfExchange();
        sentencesOfTakeUp();
        CHECKS.close();
    }

    // ---- each change

    /** The change is recorded, and when it is undone, the figure is as it was before. */
    private static void isAChange(String call, Supplier<FoldedStrips> made, ToIntFunction<FoldedStrips> change) {
        FoldedStrips strips = made.get();
        List<Integer> before = Strips.figure(strips);
        int changes = strips.count(10);
        CHECKS.holds(call + " is no error", change.applyAsInt(strips) >= 0);
        CHECKS.due(call + " is recorded", Math.min(changes + 1, 6), strips.count(10));
        CHECKS.due(call + " is undone", Math.min(changes, 5), strips.undo());
        CHECKS.holds(call + " is as if it had not been", Strips.figure(strips).equals(before));
    }

    /** The answer of the change is the number of loose ends that are there then. */
    private static void answersLooseEnds(String call, FoldedStrips strips, ToIntFunction<FoldedStrips> change,
            int due) {
        CHECKS.due(call, due, change.applyAsInt(strips));
        CHECKS.due(call + ", when they are counted", due, strips.count(3));
    }

    // ---- promise 1

    private static void newPanels() {
        FoldedStrips strips = new FoldedStrips();
        for (int panel = 0; panel < 6; panel++) {
            for (int end = 0; end < 24; end++) {
                CHECKS.due("end " + end + " of " + panel, NONE, strips.end(panel, end, 0));
                CHECKS.due("how it is", 0, strips.end(panel, end, 1));
            }
            for (int what = 0; what < 8; what++) {
                CHECKS.due("panel " + panel + ", " + what, what == 1 ? panel : 0, strips.panel(panel, what));
            }
            for (int what = 0; what < 4; what++) {
                CHECKS.due("hand " + panel + ", " + what, what == 0 ? 1 << panel : 0, strips.hand(panel, what));
                CHECKS.due("fold " + panel + ", " + what, panel == 5 ? NO_SUCH : 0, strips.fold(panel, what));
            }
        }
        for (int what = 0; what <= 10; what++) {
            CHECKS.due("count " + what, 0, strips.count(what));
        }
        for (int what = 0; what < 6; what++) {
            CHECKS.due("line 0, " + what, NO_SUCH, strips.line(0, what));
        }
    }

    private static void newRest() {
        FoldedStrips strips = new FoldedStrips();
        CHECKS.due("wipe", 0, strips.wipe());
        CHECKS.due("fault", 0, strips.fault());
        CHECKS.due("undo", NOT_POSSIBLE, strips.undo());
        CHECKS.due("restore of 0", NOT_POSSIBLE, strips.restore(0));
        CHECKS.due("restore of 1", NOT_POSSIBLE, strips.restore(1));
        CHECKS.due("draw", BAD_TEXT, strips.draw(0, 0));
        CHECKS.due("save", 0, strips.save(0));
        for (int panel = 0; panel < 6; panel++) {
            CHECKS.due("bestSlide of " + panel, 20, strips.bestSlide(panel, 0));
            CHECKS.due("its loose ends", 0, strips.bestSlide(panel, 1));
            CHECKS.due("ifTurned of " + panel, 0, strips.ifTurned(panel, 2, 0));
        }
        CHECKS.due("bestExchange", 1, strips.bestExchange(0));
        CHECKS.due("its loose ends", 0, strips.bestExchange(1));
    }

    // ---- promise 2

    private static void sentencesOfDraw() {
        CHECKS.sentence("draw: Draws the strokes of the pad on a panel", EdgesOfChangesTest::drawAllKinds);
        CHECKS.sentence("draw: in place of all that it has", EdgesOfChangesTest::drawInPlaceOfAll);
        CHECKS.sentence("draw: and empties the pad", EdgesOfChangesTest::drawEmptiesThePad);
        CHECKS.sentence("draw: This is a change", EdgesOfChangesTest::drawIsAChange);
        CHECKS.sentence("draw: hand: 0 to 5: who draws", EdgesOfChangesTest::whoDraws);
        CHECKS.sentence("draw: Returns how many strokes the panel has then", EdgesOfChangesTest::strokesDrawn);
        CHECKS.sentence("draw: NO_SUCH if there is no such panel", EdgesOfChangesTest::drawOnPanels);
        CHECKS.sentence("draw: BAD_TEXT if the pad has a fault", EdgesOfChangesTest::drawBadTexts);
    }

    private static void drawAllKinds() {
        FoldedStrips strips = Strips.drawn("", "", "", "a|l;l|a;b^k;b_k;e|e");
        int[] due = {23, 10, NONE, NONE, 16, NONE, NONE, NONE, NONE, NONE, 1, 12,
            11, 22, NONE, NONE, 4, NONE, NONE, NONE, NONE, NONE, 13, 0};
        for (int end = 0; end < 24; end++) {
            CHECKS.due("other end of " + end, due[end], strips.end(3, end, 0));
        }
        CHECKS.due("strokes of all panels", 5, strips.count(0));
    }

    private static void drawInPlaceOfAll() {
        FoldedStrips strips = Strips.drawnAll(Strips.STRAIGHT);
        CHECKS.due("one in place of twelve", 1, Strips.drawText(strips, 3, 3, "b|a"));
        CHECKS.due("it is alone", 61, strips.count(0));
        CHECKS.due("it goes elsewhere than what was there", 12, strips.end(3, 1, 0));
        CHECKS.due("what was there is gone", NONE, strips.end(3, 0, 0));
        CHECKS.due("from below, too", NONE, strips.end(3, 13, 0));
        CHECKS.due("the panel above stays", 12, strips.panel(2, 0));
        CHECKS.due("the panel below stays", 12, strips.panel(4, 0));
        CHECKS.due("twelve in place of one", 12, Strips.drawText(strips, 3, 3, Strips.CROSSED));
        CHECKS.due("twelve in place of twelve", 12, Strips.drawText(strips, 3, 3, Strips.ARCS));
        CHECKS.due("an arc among them", 1, strips.end(3, 0, 0));
    }

    private static void drawEmptiesThePad() {
        FoldedStrips strips = Strips.drawn("a|a");
        CHECKS.due("its length", 0, strips.count(9));
        CHECKS.due("its fault", 0, strips.fault());
        CHECKS.due("wipe", 0, strips.wipe());
        CHECKS.due("draw again", BAD_TEXT, strips.draw(1, 1));
        Strips.putText(strips, "b|b");
        CHECKS.due("an error does not empty it", NO_SUCH, strips.draw(6, 0));
        CHECKS.due("nor another one", BAD_VALUE, strips.draw(0, 6));
        CHECKS.due("it is as long", 3, strips.count(9));
        Strips.putText(strips, "b");
        CHECKS.due("nor a fault", BAD_TEXT, strips.draw(0, 0));
        CHECKS.due("it is longer", 4, strips.count(9));
    }

    private static void drawIsAChange() {
        isAChange("draw", () -> {
            FoldedStrips strips = Strips.drawn("a|a");
            Strips.putText(strips, "b|b");
            return strips;
        }, strips -> strips.draw(0, 3));
        isAChange("draw of the same", () -> {
            FoldedStrips strips = Strips.drawn("a|a");
            Strips.putText(strips, "a|a");
            return strips;
        }, strips -> strips.draw(0, 0));
    }

    private static void whoDraws() {
        FoldedStrips strips = new FoldedStrips();
        for (int hand = 0; hand <= 5; hand++) {
            CHECKS.due("the hand " + hand, 1, Strips.drawText(strips, 5, hand, "a|a"));
            CHECKS.due("it drew", hand, strips.panel(5, 1));
        }
        Strips.putText(strips, "a|a");
        CHECKS.due("the hand -1", BAD_VALUE, strips.draw(5, -1));
        CHECKS.due("the hand 6", BAD_VALUE, strips.draw(5, 6));
        CHECKS.due("neither drew", 5, strips.panel(5, 1));
        CHECKS.due("the panel 0 keeps its hand", 0, strips.panel(0, 1));
    }

    private static void strokesDrawn() {
        for (int strokes = 1; strokes <= 12; strokes++) {
            FoldedStrips strips = Strips.drawn("", "a|a;b|b");
            Strips.putText(strips, Strips.CROSSED.substring(0, 4 * strokes - 1));
            CHECKS.due("draw", strokes, strips.draw(1, 0));
            CHECKS.due("they are there", strokes, strips.panel(1, 0));
        }
    }

    private static void drawOnPanels() {
        FoldedStrips strips = new FoldedStrips();
        CHECKS.due("the first panel", 1, Strips.drawText(strips, 0, 0, "a|a"));
        CHECKS.due("the last panel", 1, Strips.drawText(strips, 5, 0, "a|a"));
        CHECKS.due("the panel -1", NO_SUCH, Strips.drawText(strips, -1, 0, "a|a"));
        CHECKS.due("the panel 6", NO_SUCH, Strips.drawText(strips, 6, 0, "a|a"));
        CHECKS.due("two strokes", 2, strips.count(0));
    }

    private static void drawBadTexts() {
        FoldedStrips strips = new FoldedStrips();
        CHECKS.due("an empty pad", BAD_TEXT, strips.draw(0, 0));
        for (String text : new String[] {"a", "a|", "a|a;", "a|a;b", "a|a;b|", "m|a", "a!a", "b^a", "a|a;a|b",
            "a|a;b|a", "a|ab", Strips.STRAIGHT + ";", Strips.STRAIGHT + ";a|a", "a|a;".repeat(15)}) {
            CHECKS.due("the text " + text, BAD_TEXT, Strips.drawText(strips, 0, 0, text));
            CHECKS.due("no stroke of " + text, 0, strips.count(0));
            CHECKS.due("the length of " + text, text.length(), strips.count(9));
        }
        CHECKS.due("the longest one without a fault", 12, Strips.drawText(strips, 0, 0, Strips.STRAIGHT));
    }

    // ---- promise 3

    private static void sentencesOfJoin() {
        CHECKS.sentence("join: Joins two ends of a panel by a stroke", EdgesOfChangesTest::joinTwoEnds);
        CHECKS.sentence("join: This is a change", EdgesOfChangesTest::joinIsAChange);
        CHECKS.sentence("join: Returns how many strokes the panel has then", EdgesOfChangesTest::joinUpToTwelve);
        CHECKS.sentence("join: NO_SUCH if there is no such panel or end", EdgesOfChangesTest::joinNoSuch);
        CHECKS.sentence("join: BAD_VALUE if both ends are the same", EdgesOfChangesTest::joinTheSame);
        CHECKS.sentence("join: NOT_POSSIBLE if one of them has a stroke", EdgesOfChangesTest::joinTakenEnds);
    }

    private static void joinTwoEnds() {
        FoldedStrips strips = new FoldedStrips();
        int[][] pairs = {{0, 23}, {11, 12}, {1, 2}, {22, 21}, {13, 3}, {10, 4}};
        for (int panel = 0; panel < 6; panel++) {
            for (int[] pair : pairs) {
                strips.join(panel, pair[0], pair[1]);
                CHECKS.due("from " + pair[0], pair[1], strips.end(panel, pair[0], 0));
                CHECKS.due("from " + pair[1], pair[0], strips.end(panel, pair[1], 0));
            }
            CHECKS.due("the hand stays", panel, strips.panel(panel, 1));
        }
        CHECKS.due("all strokes", 36, strips.count(0));
    }

    private static void joinIsAChange() {
        isAChange("join", FoldedStrips::new, strips -> strips.join(0, 0, 1));
        isAChange("join of the last two ends", () -> Strips.drawn(Strips.STRAIGHT.substring(4)),
            strips -> strips.join(0, 12, 0));
    }

    private static void joinUpToTwelve() {
        FoldedStrips strips = new FoldedStrips();
        for (int column = 0; column < 12; column++) {
            CHECKS.due("join", column + 1, strips.join(2, column, 23 - column));
        }
        CHECKS.due("it is full", NOT_POSSIBLE, strips.join(2, 0, 12));
        CHECKS.due("another panel is not", 1, strips.join(3, 0, 12));
        strips.rub(2, 5);
        CHECKS.due("the twelfth again", 12, strips.join(2, 18, 5));
    }

    private static void joinNoSuch() {
        FoldedStrips strips = new FoldedStrips();
        CHECKS.due("panel -1", NO_SUCH, strips.join(-1, 0, 1));
        CHECKS.due("panel 6", NO_SUCH, strips.join(6, 0, 1));
        CHECKS.due("end -1", NO_SUCH, strips.join(0, -1, 1));
        CHECKS.due("end 24", NO_SUCH, strips.join(0, 24, 1));
        CHECKS.due("other -1", NO_SUCH, strips.join(0, 1, -1));
        CHECKS.due("other 24", NO_SUCH, strips.join(0, 1, 24));
        CHECKS.due("the last panel's end 24", NO_SUCH, strips.join(5, 1, 24));
        CHECKS.due("no strokes", 0, strips.count(0));
        CHECKS.due("panel 0, the first end and the last one", 1, strips.join(0, 0, 23));
        CHECKS.due("panel 5, the last end and the first one", 1, strips.join(5, 23, 0));
    }

    private static void joinTheSame() {
        FoldedStrips strips = new FoldedStrips();
        for (int end = 0; end < 24; end++) {
            CHECKS.due("end " + end, BAD_VALUE, strips.join(end % 6, end, end));
        }
        CHECKS.due("no strokes", 0, strips.count(0));
        strips.join(1, 4, 5);
        CHECKS.due("one with a stroke", BAD_VALUE, strips.join(1, 4, 4));
    }

    private static void joinTakenEnds() {
        FoldedStrips strips = new FoldedStrips();
        strips.join(4, 0, 12);
        strips.join(4, 1, 13);
        CHECKS.due("the first one", NOT_POSSIBLE, strips.join(4, 0, 2));
        CHECKS.due("the second one", NOT_POSSIBLE, strips.join(4, 2, 0));
        CHECKS.due("the first one, from below", NOT_POSSIBLE, strips.join(4, 13, 2));
        CHECKS.due("the second one, from below", NOT_POSSIBLE, strips.join(4, 2, 13));
        CHECKS.due("both, by two strokes", NOT_POSSIBLE, strips.join(4, 0, 1));
        CHECKS.due("both, by one stroke", NOT_POSSIBLE, strips.join(4, 12, 0));
        CHECKS.due("the same ends of another panel", 1, strips.join(5, 0, 12));
        strips.rub(4, 0);
        CHECKS.due("ends that have none any more", 2, strips.join(4, 12, 2));
    }

    // ---- promises 4 and 5

    private static void sentencesOfRubAndClear() {
        CHECKS.sentence("rub: Rubs the stroke of an end out", EdgesOfChangesTest::rubOne);
        CHECKS.sentence("rub: This is a change", () -> isAChange("rub", () -> Strips.drawn("b|a"),
            strips -> strips.rub(0, 12)));
        CHECKS.sentence("rub: Returns its other end", EdgesOfChangesTest::rubAnswersTheOtherEnd);
        CHECKS.sentence("rub: NO_SUCH if there is no such panel or end", EdgesOfChangesTest::rubNoSuch);
        CHECKS.sentence("rub: NOT_POSSIBLE if it has no stroke", EdgesOfChangesTest::rubOpenEnds);
        CHECKS.sentence("clear: Rubs all strokes of a panel out", EdgesOfChangesTest::clearAll);
        CHECKS.sentence("clear: the panel keeps its hand", EdgesOfChangesTest::clearKeepsTheHand);
        CHECKS.sentence("clear: This is a change", EdgesOfChangesTest::clearIsAChange);
        CHECKS.sentence("clear: Returns how many they were", EdgesOfChangesTest::clearAnswersHowMany);
        CHECKS.sentence("clear: NO_SUCH if there is no such panel", EdgesOfChangesTest::clearNoSuch);
    }

    private static void rubOne() {
        FoldedStrips strips = Strips.drawnAll(Strips.CROSSED);
        CHECKS.due("from above", 23, strips.rub(0, 0));
        CHECKS.due("its end is open", NONE, strips.end(0, 0, 0));
        CHECKS.due("its other end is open", NONE, strips.end(0, 23, 0));
        CHECKS.due("the others of the panel stay", 11, strips.panel(0, 0));
        CHECKS.due("those of other panels stay", 71, strips.count(0));
        for (int end = 22; end >= 12; end--) {
            CHECKS.due("from below", 23 - end, strips.rub(0, end));
        }
        CHECKS.due("none is left", 0, strips.panel(0, 0));
        CHECKS.due("nothing is left to rub", NOT_POSSIBLE, strips.rub(0, 12));
    }

    private static void rubAnswersTheOtherEnd() {
        for (int end = 0; end < 24; end++) {
            for (int other = 0; other < 24; other++) {
                if (other != end) {
                    FoldedStrips strips = new FoldedStrips();
                    strips.join(5, end, other);
                    CHECKS.due("the other end of " + end, other, strips.rub(5, end));
                    CHECKS.due("no stroke", 0, strips.count(0));
                }
            }
        }
    }

    private static void rubNoSuch() {
        FoldedStrips strips = Strips.drawnAll(Strips.STRAIGHT);
        CHECKS.due("panel -1", NO_SUCH, strips.rub(-1, 0));
        CHECKS.due("panel 6", NO_SUCH, strips.rub(6, 0));
        CHECKS.due("end -1", NO_SUCH, strips.rub(0, -1));
        CHECKS.due("end -1 of the last panel", NO_SUCH, strips.rub(5, -1));
        CHECKS.due("end 24", NO_SUCH, strips.rub(0, 24));
        CHECKS.due("end 24 of the last panel", NO_SUCH, strips.rub(5, 24));
        CHECKS.due("panel 0, end 0", 12, strips.rub(0, 0));
        CHECKS.due("panel 5, end 23", 11, strips.rub(5, 23));
    }

    private static void rubOpenEnds() {
        FoldedStrips strips = Strips.drawn("", "a|b");
        for (int end = 0; end < 24; end++) {
            if (end != 0 && end != 13) {
                CHECKS.due("end " + end, NOT_POSSIBLE, strips.rub(1, end));
            }
            CHECKS.due("end " + end + " of the panel above", NOT_POSSIBLE, strips.rub(0, end));
            CHECKS.due("end " + end + " of the panel below", NOT_POSSIBLE, strips.rub(2, end));
        }
        CHECKS.due("the stroke stays", 1, strips.count(0));
        strips.rub(1, 0);
        CHECKS.due("once it is rubbed", NOT_POSSIBLE, strips.rub(1, 0));
        CHECKS.due("its other end, too", NOT_POSSIBLE, strips.rub(1, 13));
    }

    private static void clearAll() {
        FoldedStrips strips = Strips.drawnAll(Strips.STRAIGHT);
        CHECKS.due("clear", 12, strips.clear(2));
        for (int end = 0; end < 24; end++) {
            CHECKS.due("end " + end, NONE, strips.end(2, end, 0));
        }
        CHECKS.due("the other panels stay", 60, strips.count(0));
        CHECKS.due("marks that nobody takes up", 4095, strips.fold(1, 2));
        CHECKS.due("strokes that begin without a mark", 4095, strips.fold(2, 3));
        CHECKS.due("all ends can be joined", 1, strips.join(2, 0, 23));
    }

    private static void clearKeepsTheHand() {
        FoldedStrips strips = new FoldedStrips();
        Strips.drawText(strips, 1, 4, "a|a");
        strips.clear(1);
        CHECKS.due("of the panel that was drawn", 4, strips.panel(1, 1));
        CHECKS.due("of the hand", 0b010010, strips.hand(4, 0));
        strips.clear(0);
        CHECKS.due("of a panel that nobody drew", 0, strips.panel(0, 1));
        strips.clear(5);
        CHECKS.due("of the last panel", 5, strips.panel(5, 1));
    }

    private static void clearIsAChange() {
        isAChange("clear", () -> Strips.drawnAll(Strips.ARCS), strips -> strips.clear(5));
        isAChange("clear of an empty panel", FoldedStrips::new, strips -> strips.clear(0));
    }

    private static void clearAnswersHowMany() {
        FoldedStrips strips = new FoldedStrips();
        CHECKS.due("an empty panel", 0, strips.clear(3));
        for (int strokes = 1; strokes <= 12; strokes++) {
            Strips.drawText(strips, 3, 3, Strips.CROSSED.substring(0, 4 * strokes - 1));
            CHECKS.due("clear", strokes, strips.clear(3));
            CHECKS.due("clear again", 0, strips.clear(3));
        }
    }

    private static void clearNoSuch() {
        FoldedStrips strips = Strips.drawnAll("a|a");
        CHECKS.due("panel -1", NO_SUCH, strips.clear(-1));
        CHECKS.due("panel 6", NO_SUCH, strips.clear(6));
        CHECKS.due("all strokes stay", 6, strips.count(0));
        CHECKS.due("panel 0", 1, strips.clear(0));
        CHECKS.due("panel 5", 1, strips.clear(5));
    }

    // ---- promise 6

    private static void sentencesOfSlide() {
        CHECKS.sentence("slide: Slides all strokes of a panel by some columns to the right (to the left, if columns is"
            + " below 0); NOT_POSSIBLE if an end with a stroke would be beyond the edge",
            EdgesOfChangesTest::slideEachStroke);
        CHECKS.sentence("slide: all strokes", EdgesOfChangesTest::slideAllStrokes);
        CHECKS.sentence("slide: This is a change", EdgesOfChangesTest::slideIsAChange);
        CHECKS.sentence("slide: columns: -11 to 11, not 0", EdgesOfChangesTest::slideColumns);
        CHECKS.sentence("slide: Returns how many loose ends the strip has then", EdgesOfChangesTest::slideAnswers);
        CHECKS.sentence("slide: NO_SUCH if there is no such panel", EdgesOfChangesTest::slideNoSuch);
        CHECKS.sentence("slide: NOT_POSSIBLE, if just one of many ends would be beyond the edge",
            EdgesOfChangesTest::slideStopsByOneEnd);
        CHECKS.sentence("slide: an empty panel and a full one", EdgesOfChangesTest::slideEmptyAndFull);
    }

    /** Each stroke alone, by each number of columns: it goes as far as the edge, and not one column more. */
    private static void slideEachStroke() {
        for (int end = 0; end < 24; end++) {
            for (int other = end + 1; other < 24; other++) {
                for (int columns = -11; columns <= 11; columns++) {
                    if (columns != 0) {
                        slideStroke(end, other, columns);
                    }
                }
            }
        }
    }

    private static void slideStroke(int end, int other, int columns) {
        FoldedStrips strips = new FoldedStrips();
        strips.join(2, end, other);
        int lesser = Math.min(end % 12, other % 12) + columns;
        int greater = Math.max(end % 12, other % 12) + columns;
        boolean within = lesser >= 0 && greater <= 11;
        String call = end + "-" + other + " by " + columns;
        CHECKS.due(call, within ? 2 : NOT_POSSIBLE, strips.slide(2, columns));
        int by = within ? columns : 0;
        CHECKS.due(call + ": where it is then", other + by, strips.end(2, end + by, 0));
        CHECKS.due(call + ": one stroke", 1, strips.count(0));
    }

    private static void slideAllStrokes() {
        FoldedStrips strips = Strips.drawn("", "c|d;d|c;e^h;f_j", "c|d");
        CHECKS.due("to the left", 10, strips.slide(1, -2));
        int[] due = {13, 12, 5, NONE, NONE, 2, NONE, NONE, NONE, NONE, NONE, NONE,
            1, 0, NONE, 19, NONE, NONE, NONE, 15, NONE, NONE, NONE, NONE};
        for (int end = 0; end < 24; end++) {
            CHECKS.due("other end of " + end, due[end], strips.end(1, end, 0));
        }
        CHECKS.due("other panels stay", 15, strips.end(2, 2, 0));
        CHECKS.due("the hand stays", 1, strips.panel(1, 1));
        CHECKS.due("by one to the right, onto what was there", 8, strips.slide(1, 1));
        CHECKS.due("the one", 14, strips.end(1, 1, 0));
        CHECKS.due("the other", 13, strips.end(1, 2, 0));
        CHECKS.due("as many strokes", 4, strips.panel(1, 0));
    }

    private static void slideIsAChange() {
        isAChange("slide", () -> Strips.drawn("a|b"), strips -> strips.slide(0, 10));
        isAChange("slide of an empty panel", FoldedStrips::new, strips -> strips.slide(5, -11));
    }

    private static void slideColumns() {
        for (int columns = -13; columns <= 13; columns++) {
            boolean taken = columns != 0 && columns >= -11 && columns <= 11;
            FoldedStrips strips = new FoldedStrips();
            CHECKS.due("an empty panel by " + columns, taken ? 0 : BAD_VALUE, strips.slide(3, columns));
            CHECKS.due("a change by " + columns, taken ? 1 : 0, strips.count(10));
        }
        FoldedStrips strips = Strips.drawn("", "a|a");
        CHECKS.due("by 11 from the one edge to the other", 2, strips.slide(1, 11));
        CHECKS.due("by -11 back", 2, strips.slide(1, -11));
        CHECKS.due("by 0", BAD_VALUE, strips.slide(1, 0));
        CHECKS.due("by 12", BAD_VALUE, strips.slide(1, 12));
    }

    private static void slideAnswers() {
        answersLooseEnds("none", Strips.drawn("b_c", "a^b"), strips -> strips.slide(1, 1), 0);
        answersLooseEnds("some at its own folds", Strips.drawn("a|a", "a|a", "a|a"), strips -> strips.slide(1, 1), 5);
        answersLooseEnds("some of other panels", Strips.drawn("a|a", "", "", "", "a|a", "a|a"),
            strips -> strips.slide(0, 2), 2);
        answersLooseEnds("free ends are not loose", Strips.drawn("a^b"), strips -> strips.slide(0, 1), 0);
        answersLooseEnds("free ends at the bottom", Strips.drawn("", "", "", "", "", "a_b"),
            strips -> strips.slide(5, 10), 0);
    }

    private static void slideNoSuch() {
        FoldedStrips strips = Strips.drawnAll("a|a");
        CHECKS.due("panel -1", NO_SUCH, strips.slide(-1, 1));
        CHECKS.due("panel 6", NO_SUCH, strips.slide(6, 1));
        CHECKS.due("panel 0", 2, strips.slide(0, 1));
        CHECKS.due("panel 5", 4, strips.slide(5, 1));
    }

    private static void slideStopsByOneEnd() {
        String many = "b|c;c|b;d|e;e|d;f|f;g|g;h|i;i|h;j|k;k|j";
        FoldedStrips strips = Strips.drawn("", many);
        CHECKS.due("to the right edge", 20, strips.slide(1, 1));
        CHECKS.due("beyond it", NOT_POSSIBLE, strips.slide(1, 1));
        CHECKS.due("to the left edge", 20, strips.slide(1, -2));
        CHECKS.due("beyond it", NOT_POSSIBLE, strips.slide(1, -1));
        for (String one : new String[] {"a^b", "a_b", "k^l", "k_l"}) {
            FoldedStrips arc = Strips.drawn("", "", "", "", "", one);
            boolean left = one.charAt(0) == 'a';
            CHECKS.due(one + " beyond its edge", NOT_POSSIBLE, arc.slide(5, left ? -1 : 1));
            CHECKS.due(one + " to the other edge", one.charAt(1) == '^' ? 2 : 0, arc.slide(5, left ? 10 : -10));
            CHECKS.due(one + " beyond the other edge", NOT_POSSIBLE, arc.slide(5, left ? 1 : -1));
        }
    }

    private static void slideEmptyAndFull() {
        FoldedStrips strips = Strips.drawn(Strips.STRAIGHT);
        for (int columns = -11; columns <= 11; columns++) {
            if (columns != 0) {
                CHECKS.due("full, by " + columns, NOT_POSSIBLE, strips.slide(0, columns));
                CHECKS.due("empty, by " + columns, 12, strips.slide(1, columns));
            }
        }
        CHECKS.due("the full one stays", 12, strips.panel(0, 0));
        CHECKS.due("the empty one stays", 0, strips.panel(1, 0));
    }

    // ---- promise 7

    private static void sentencesOfTurn() {
        CHECKS.sentence("turn: 0 mirrored: a column k becomes 11 - k", () -> turnEachStroke(0));
        CHECKS.sentence("turn: 1 turned over: the upper edge becomes the lower one, columns stay",
            () -> turnEachStroke(1));
        CHECKS.sentence("turn: 2 both", () -> turnEachStroke(2));
        CHECKS.sentence("turn: its strokes go to other ends", EdgesOfChangesTest::turnFullPanels);
        CHECKS.sentence("turn: This is a change", EdgesOfChangesTest::turnIsAChange);
        CHECKS.sentence("turn: Returns how many loose ends the strip has then", EdgesOfChangesTest::turnAnswers);
        CHECKS.sentence("turn: NO_SUCH if there is no such panel", EdgesOfChangesTest::turnNoSuch);
        CHECKS.sentence("turn: BAD_VALUE if how is out of range", EdgesOfChangesTest::turnHow);
    }

    private static int turned(int end, int how) {
        int column = end % 12;
        int newColumn = how == 1 ? column : 11 - column;
        boolean lower = end >= 12;
        boolean newLower = how == 0 ? lower : !lower;
        return newLower ? newColumn + 12 : newColumn;
    }

    private static void turnEachStroke(int how) {
        for (int end = 0; end < 24; end++) {
            for (int other = end + 1; other < 24; other++) {
                FoldedStrips strips = new FoldedStrips();
                strips.join(3, end, other);
                String call = end + "-" + other + ", " + how;
                CHECKS.due(call, 2, strips.turn(3, how));
                CHECKS.due(call + ": its end", turned(other, how), strips.end(3, turned(end, how), 0));
                CHECKS.due(call + ": its other end", turned(end, how), strips.end(3, turned(other, how), 0));
                CHECKS.due(call + ": one stroke", 1, strips.count(0));
            }
        }
    }

    private static void turnFullPanels() {
        FoldedStrips strips = Strips.drawn("", Strips.UPPER_ARCS);
        CHECKS.due("arcs go down", 12, strips.turn(1, 1));
        CHECKS.due("none is at the upper edge", 0, strips.panel(1, 2));
        CHECKS.due("all are at the lower edge", 4095, strips.panel(1, 3));
        Strips.drawText(strips, 1, 1, "a|b;b|a;c|c;d^e;d_l");
        strips.turn(1, 0);
        CHECKS.due("upper columns, mirrored", 0b111110000000, strips.panel(1, 2));
        CHECKS.due("lower columns, mirrored", 0b111100000001, strips.panel(1, 3));
        strips.turn(1, 2);
        CHECKS.due("upper columns, both", 0b100000001111, strips.panel(1, 2));
        CHECKS.due("lower columns, both", 0b000000011111, strips.panel(1, 3));
        CHECKS.due("all strokes", 5, strips.panel(1, 0));
        Strips.drawText(strips, 1, 3, Strips.STRAIGHT);
        CHECKS.due("a full one", 24, strips.turn(1, 2));
        CHECKS.due("it is still full", 12, strips.panel(1, 0));
        CHECKS.due("the hand stays", 3, strips.panel(1, 1));
    }

    private static void turnIsAChange() {
        for (int how = 0; how <= 2; how++) {
            int way = how;
            isAChange("turn", () -> Strips.drawn("a|b;c^d"), strips -> strips.turn(0, way));
            isAChange("turn of an empty panel", FoldedStrips::new, strips -> strips.turn(5, way));
            isAChange("turn to the same", () -> Strips.drawn(Strips.STRAIGHT), strips -> strips.turn(0, way));
        }
    }

    private static void turnAnswers() {
        answersLooseEnds("none", Strips.drawn("a_b", "k^l"), strips -> strips.turn(1, 0), 0);
        answersLooseEnds("some at its own folds", Strips.drawn("a|b", "b|c", "c|d"), strips -> strips.turn(1, 1), 5);
        answersLooseEnds("some of other panels", Strips.drawn("a|a", "", "", "a|a", "", ""),
            strips -> strips.turn(0, 2), 3);
        answersLooseEnds("free ends are not loose", Strips.drawn("a_b"), strips -> strips.turn(0, 1), 0);
        answersLooseEnds("free ends become loose", Strips.drawn("a^b"), strips -> strips.turn(0, 2), 2);
    }

    private static void turnNoSuch() {
        FoldedStrips strips = Strips.drawnAll("a|a");
        CHECKS.due("panel -1", NO_SUCH, strips.turn(-1, 0));
        CHECKS.due("panel 6", NO_SUCH, strips.turn(6, 0));
        CHECKS.due("panel 0", 2, strips.turn(0, 0));
        CHECKS.due("panel 5", 4, strips.turn(5, 0));
    }

    private static void turnHow() {
        FoldedStrips strips = Strips.drawn("a|b");
        CHECKS.due("how -1", BAD_VALUE, strips.turn(0, -1));
        CHECKS.due("how 3", BAD_VALUE, strips.turn(0, 3));
        CHECKS.due("it stays", 13, strips.end(0, 0, 0));
        CHECKS.due("how 0", 1, strips.turn(0, 0));
        CHECKS.due("how 1", 1, strips.turn(0, 1));
        CHECKS.due("how 2", 1, strips.turn(0, 2));
        CHECKS.due("where it is then", 13, strips.end(0, 0, 0));
    }

    // ---- promise 8

    private static void sentencesOfExchange() {
        CHECKS.sentence("exchange: Exchanges two panels, with their hands", EdgesOfChangesTest::exchangeAllPairs);
        CHECKS.sentence("exchange: This is a change", EdgesOfChangesTest::exchangeIsAChange);
        CHECKS.sentence("exchange: Returns how many loose ends the strip has then",
            EdgesOfChangesTest::exchangeAnswers);
        CHECKS.sentence("exchange: NO_SUCH if there is no such panel", EdgesOfChangesTest::exchangeNoSuch);
        CHECKS.sentence("exchange: NOT_POSSIBLE if both are the same", EdgesOfChangesTest::exchangeTheSame);
    }

    private static void exchangeAllPairs() {
        for (int one = 0; one < 6; one++) {
            for (int two = 0; two < 6; two++) {
                if (one != two) {
                    exchangePair(one, two);
                }
            }
        }
    }

    private static void exchangePair(int one, int two) {
        FoldedStrips strips = new FoldedStrips();
        for (int panel = 0; panel < 6; panel++) {
            Strips.drawText(strips, panel, 5 - panel, "abcdef".charAt(panel) + "|" + "ghijkl".charAt(panel));
        }
        strips.exchange(one, two);
        for (int panel = 0; panel < 6; panel++) {
            int from = panel == one ? two : panel == two ? one : panel;
            String which = one + " and " + two + ": the panel " + panel;
            CHECKS.due(which, 18 + from, strips.end(panel, from, 0));
            CHECKS.due(which + ", strokes", 1, strips.panel(panel, 0));
            CHECKS.due(which + ", hand", 5 - from, strips.panel(panel, 1));
        }
    }

    private static void exchangeIsAChange() {
        isAChange("exchange", () -> Strips.drawn("a|b", "c^d"), strips -> strips.exchange(0, 1));
        isAChange("exchange of empty panels", FoldedStrips::new, strips -> strips.exchange(4, 5));
        isAChange("exchange of panels that are alike", () -> {
            FoldedStrips strips = Strips.drawn("a|b");
            Strips.drawText(strips, 5, 0, "a|b");
            return strips;
        }, strips -> strips.exchange(5, 0));
    }

    private static void exchangeAnswers() {
        answersLooseEnds("none", Strips.drawn("a^b", "a_b"), strips -> strips.exchange(0, 1), 0);
        answersLooseEnds("some", Strips.drawn("a_b", "a^b"), strips -> strips.exchange(0, 1), 2);
        answersLooseEnds("a full one and an empty one", Strips.drawn(Strips.STRAIGHT),
            strips -> strips.exchange(0, 3), 24);
        answersLooseEnds("from the top to the bottom", Strips.drawn(Strips.STRAIGHT),
            strips -> strips.exchange(5, 0), 12);
        answersLooseEnds("some of other panels", Strips.drawn("", "", "a|a"), strips -> strips.exchange(4, 5), 2);
    }

    private static void exchangeNoSuch() {
        FoldedStrips strips = Strips.drawnAll("a|a");
        CHECKS.due("panel -1", NO_SUCH, strips.exchange(-1, 0));
        CHECKS.due("panel 6", NO_SUCH, strips.exchange(6, 0));
        CHECKS.due("other -1", NO_SUCH, strips.exchange(0, -1));
        CHECKS.due("other 6", NO_SUCH, strips.exchange(0, 6));
        CHECKS.due("the first one and the last one", 0, strips.exchange(0, 5));
        CHECKS.due("the last one and the first one", 0, strips.exchange(5, 0));
    }

    private static void exchangeTheSame() {
        FoldedStrips strips = Strips.drawnAll("a|a");
        for (int panel = 0; panel < 6; panel++) {
            CHECKS.due("panel " + panel, NOT_POSSIBLE, strips.exchange(panel, panel));
        }
        CHECKS.due("changes", 6, strips.count(10));
        CHECKS.due("the latest change is the drawing", 5, strips.undo());
        CHECKS.due("strokes then", 5, strips.count(0));
    }

    // ---- promise 9

    private static void sentencesOfTakeUp() {
        CHECKS.sentence("takeUp: for each column of the fold ahead of a panel at which the panel above has a stroke and"
            + " this one has none at its upper edge, this one gets a stroke from there straight down, if its end at the"
            + " lower edge of that column has none", EdgesOfChangesTest::takeUpColumns);
        CHECKS.sentence("takeUp: the fold ahead of a panel", EdgesOfChangesTest::takeUpAtTheRightFold);
        CHECKS.sentence("takeUp: This is a change", EdgesOfChangesTest::takeUpIsAChange);
        CHECKS.sentence("takeUp: Returns how many strokes it gets", EdgesOfChangesTest::takeUpAnswers);
        CHECKS.sentence("takeUp: NO_SUCH if there is no such panel, or it is the panel 0",
            EdgesOfChangesTest::takeUpNoSuch);
    }

    /** Each column, with a mark and without, the upper end taken and open, the lower end taken and open. */
    private static void takeUpColumns() {
        for (int column = 0; column < 12; column++) {
            for (int how = 0; how < 8; how++) {
                takeUpColumn(column, (how & 1) != 0, (how & 2) != 0, (how & 4) != 0);
            }
        }
    }

    private static void takeUpColumn(int column, boolean mark, boolean upperTaken, boolean lowerTaken) {
        FoldedStrips strips = new FoldedStrips();
        int aside = (column + 5) % 12;
        int farther = (column + 7) % 12;
        if (mark) {
            strips.join(2, 12 + column, 0);
        }
        if (upperTaken) {
            strips.join(3, column, aside);
        }
        if (lowerTaken) {
            strips.join(3, 12 + column, 12 + farther);
        }
        boolean gets = mark && !upperTaken && !lowerTaken;
        String how = "column " + column + (mark ? ", mark" : "") + (upperTaken ? ", upper end" : "")
            + (lowerTaken ? ", lower end" : "");
        CHECKS.due(how, gets ? 1 : 0, strips.takeUp(3));
        CHECKS.due(how + ": its upper end", gets ? 12 + column : upperTaken ? aside : NONE, strips.end(3, column, 0));
        CHECKS.due(how + ": its lower end", gets ? column : lowerTaken ? 12 + farther : NONE,
            strips.end(3, 12 + column, 0));
        CHECKS.due(how + ": the panel above", mark ? 1 : 0, strips.panel(2, 0));
        CHECKS.due(how + ": no others", (mark ? 1 : 0) + (upperTaken ? 1 : 0) + (lowerTaken ? 1 : 0) + (gets ? 1 : 0),
            strips.count(0));
    }

    private static void takeUpAtTheRightFold() {
        for (int panel = 1; panel <= 5; panel++) {
            FoldedStrips strips = new FoldedStrips();
            for (int other = 0; other < 6; other++) {
                strips.join(other, 12 + 2 * other, 13 + 2 * other);
            }
            CHECKS.due("the panel " + panel, 2, strips.takeUp(panel));
            CHECKS.due("what it takes up", 3 << 2 * panel - 2, strips.panel(panel, 2));
            CHECKS.due("one more", 10 + 2 * panel, strips.end(panel, 2 * panel - 2, 0));
            CHECKS.due("all strokes", 8, strips.count(0));
            CHECKS.due("the hand stays", panel, strips.panel(panel, 1));
        }
    }

    private static void takeUpIsAChange() {
        isAChange("takeUp", () -> Strips.drawn("a|a;b_c"), strips -> strips.takeUp(1));
        isAChange("takeUp of no mark", FoldedStrips::new, strips -> strips.takeUp(5));
    }

    private static void takeUpAnswers() {
        FoldedStrips strips = Strips.drawn(Strips.STRAIGHT);
        CHECKS.due("no mark", 0, strips.takeUp(2));
        CHECKS.due("all marks", 12, strips.takeUp(1));
        CHECKS.due("none that is left", 0, strips.takeUp(1));
        strips.rub(1, 11);
        CHECKS.due("one that is left", 1, strips.takeUp(1));
        CHECKS.due("all go on", 12, strips.takeUp(2));
        strips.clear(1);
        strips.join(1, 12, 23);
        CHECKS.due("all but two, whose lower ends are taken", 10, strips.takeUp(1));
        CHECKS.due("to a full panel", 0, strips.takeUp(2));
        CHECKS.due("to the last panel", 0, strips.takeUp(5));
    }

    private static void takeUpNoSuch() {
        FoldedStrips strips = Strips.drawn("a|a", "", "", "", "a|a");
        CHECKS.due("panel -1", NO_SUCH, strips.takeUp(-1));
        CHECKS.due("panel 0", NO_SUCH, strips.takeUp(0));
        CHECKS.due("panel 6", NO_SUCH, strips.takeUp(6));
        CHECKS.due("no stroke more", 2, strips.count(0));
        CHECKS.due("panel 1", 1, strips.takeUp(1));
        CHECKS.due("panel 5", 1, strips.takeUp(5));
    }
}
