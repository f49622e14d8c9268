import java.util.function.Consumer;

/** Promises 10 to 15 at their edges: end, panel, fold, hand, line, count. */
public final class EdgesOfLooksTest {
    private static final Checks CHECKS = new Checks("EdgesOfLooksTest");
    private static final int NO_SUCH = -1, BAD_VALUE = -2, NONE = -6;
    private static final int ALL_COLUMNS = 4095;

    public static void main(String[] args) {
        sentencesOfEnd();
        sentencesOfPanel();
        sentencesOfFold();
        sentencesOfHand();
        sentencesOfLine();
        sentencesOfCount();
        CHECKS.sentence("what there is; nothing changes", EdgesOfLooksTest::nothingChanges);
        CHECKS.close();
    }

    /** A line from the top down and up at each column, and back to the top: no line can have more strokes. */
    private static FoldedStrips withLongestLine() {
        return Strips.drawn("a|a;b_c;d_e;f_g;h_i;j_k;l|l", Strips.STRAIGHT, Strips.STRAIGHT, Strips.STRAIGHT,
            Strips.STRAIGHT, Strips.UPPER_ARCS);
    }

    /** The same without ends: no loop can have more strokes. */
    private static FoldedStrips withLongestLoop() {
        return Strips.drawn("a_l;b_c;d_e;f_g;h_i;j_k", Strips.STRAIGHT, Strips.STRAIGHT, Strips.STRAIGHT,
            Strips.STRAIGHT, Strips.UPPER_ARCS);
    }

    // ---- promise 10

    private static void sentencesOfEnd() {
        CHECKS.sentence("end: 0 the other end of its stroke (NONE without one)", EdgesOfLooksTest::otherEnds);
        CHECKS.sentence("end: 1 how it is: 0 without a stroke, 1 it meets its neighbour's stroke, 2 loose, 3 free",
            EdgesOfLooksTest::howEndsAre);
        CHECKS.sentence("end: 2 the number of its line (NONE without a stroke)", EdgesOfLooksTest::linesOfEnds);
        CHECKS.sentence("end: 3 strokes of the panel that cross its stroke (NONE likewise)",
            EdgesOfLooksTest::crossingsOfEnds);
        CHECKS.sentence("end: NO_SUCH if there is no such panel or end", EdgesOfLooksTest::endNoSuch);
        CHECKS.sentence("end: BAD_VALUE if what is out of range", EdgesOfLooksTest::endBadValue);
    }

    private static void otherEnds() {
        FoldedStrips strips = Strips.drawn("", "", "", "", "", "a|l;l|a;b^k;b_k");
        int[] ends = {0, 11, 1, 13};
        int[] others = {23, 12, 10, 22};
        for (int at = 0; at < 4; at++) {
            CHECKS.due("of " + ends[at], others[at], strips.end(5, ends[at], 0));
            CHECKS.due("of " + others[at], ends[at], strips.end(5, others[at], 0));
        }
        CHECKS.due("without one", NONE, strips.end(5, 2, 0));
        CHECKS.due("of the last end of another panel", NONE, strips.end(4, 23, 0));
        strips.rub(5, 0);
        CHECKS.due("without one any more", NONE, strips.end(5, 23, 0));
    }

    private static void howEndsAre() {
        FoldedStrips strips = Strips.drawn("a|a;b_c", "a|a;d^e", "", "", "", "a|a");
        CHECKS.due("without a stroke", 0, strips.end(2, 5, 1));
        CHECKS.due("without a stroke beside a loose one", 0, strips.end(1, 1, 1));
        CHECKS.due("without a stroke at the top", 0, strips.end(0, 1, 1));
        CHECKS.due("without a stroke at the bottom", 0, strips.end(5, 23, 1));
        CHECKS.due("meets below", 1, strips.end(0, 12, 1));
        CHECKS.due("meets above", 1, strips.end(1, 0, 1));
        CHECKS.due("loose below", 2, strips.end(0, 13, 1));
        CHECKS.due("loose above", 2, strips.end(1, 3, 1));
        CHECKS.due("loose above, at the last fold", 2, strips.end(5, 0, 1));
        CHECKS.due("free at the top", 3, strips.end(0, 0, 1));
        CHECKS.due("free at the bottom", 3, strips.end(5, 12, 1));
    }

    private static void linesOfEnds() {
        FoldedStrips strips = Strips.drawnAll(Strips.ARCS);
        CHECKS.due("the first one", 0, strips.end(0, 0, 2));
        CHECKS.due("the first one, from its other end", 0, strips.end(0, 1, 2));
        CHECKS.due("the next one", 1, strips.end(0, 2, 2));
        CHECKS.due("a loop", 6, strips.end(0, 12, 2));
        CHECKS.due("the same loop, from below", 6, strips.end(1, 0, 2));
        CHECKS.due("the last one of all", 41, strips.end(5, 23, 2));
        strips.rub(5, 22);
        CHECKS.due("without a stroke", NONE, strips.end(5, 23, 2));
        CHECKS.due("the one ahead keeps its number", 40, strips.end(5, 21, 2));
        strips.rub(0, 0);
        CHECKS.due("one less is ahead", 39, strips.end(5, 21, 2));
        CHECKS.due("all ends of the longest line", 0, withLongestLine().end(5, 11, 2));
    }

    private static void crossingsOfEnds() {
        FoldedStrips strips = Strips.drawn("", Strips.CROSSED);
        for (int end = 0; end < 24; end++) {
            CHECKS.due("all others cross that of " + end, 11, strips.end(1, end, 3));
            CHECKS.due("without a stroke", NONE, strips.end(0, end, 3));
        }
        strips.rub(1, 0);
        CHECKS.due("one less", 10, strips.end(1, 1, 3));
        CHECKS.due("without one any more", NONE, strips.end(1, 23, 3));
        Strips.drawText(strips, 1, 1, "a|a");
        CHECKS.due("alone", 0, strips.end(1, 0, 3));
        Strips.drawText(strips, 1, 1, Strips.STRAIGHT);
        CHECKS.due("all beside it", 0, strips.end(1, 5, 3));
    }

    private static void endNoSuch() {
        FoldedStrips strips = Strips.drawnAll(Strips.STRAIGHT);
        for (int what = 0; what < 4; what++) {
            CHECKS.due("panel -1, " + what, NO_SUCH, strips.end(-1, 0, what));
            CHECKS.due("panel 6, " + what, NO_SUCH, strips.end(6, 0, what));
            CHECKS.due("end -1, " + what, NO_SUCH, strips.end(0, -1, what));
            CHECKS.due("end -1 of the panel 5, " + what, NO_SUCH, strips.end(5, -1, what));
            CHECKS.due("end 24, " + what, NO_SUCH, strips.end(0, 24, what));
            CHECKS.due("end 24 of the panel 5, " + what, NO_SUCH, strips.end(5, 24, what));
        }
        CHECKS.due("panel 0, end 0", 12, strips.end(0, 0, 0));
        CHECKS.due("panel 5, end 23", 11, strips.end(5, 23, 0));
    }

    private static void endBadValue() {
        FoldedStrips strips = Strips.drawn("a|a");
        for (int end : new int[] {0, 1}) {
            CHECKS.due("what -1, " + end, BAD_VALUE, strips.end(0, end, -1));
            CHECKS.due("what 4, " + end, BAD_VALUE, strips.end(0, end, 4));
        }
        CHECKS.due("what 0", 12, strips.end(0, 0, 0));
        CHECKS.due("what 3", 0, strips.end(0, 0, 3));
    }

    // ---- promise 11

    private static void sentencesOfPanel() {
        CHECKS.sentence("panel: 0 its strokes, how many", EdgesOfLooksTest::strokesOfPanels);
        CHECKS.sentence("panel: 1 its hand", EdgesOfLooksTest::handsOfPanels);
        CHECKS.sentence("panel: 2 columns of its upper edge with strokes, as a set, 3 those of its lower edge",
            EdgesOfLooksTest::columnsOfPanels);
        CHECKS.sentence("panel: 4 pairs of its strokes that cross", EdgesOfLooksTest::pairsOfPanels);
        CHECKS.sentence("panel: 5 its loose ends", EdgesOfLooksTest::looseEndsOfPanels);
        CHECKS.sentence("panel: 6 lines that have a stroke in it", EdgesOfLooksTest::linesOfPanels);
        CHECKS.sentence("panel: 7 strokes from its upper edge to its lower one", EdgesOfLooksTest::strokesDown);
        CHECKS.sentence("panel: NO_SUCH if there is no such panel", EdgesOfLooksTest::panelNoSuch);
        CHECKS.sentence("panel: BAD_VALUE if what is out of range", EdgesOfLooksTest::panelBadValue);
    }

    private static void strokesOfPanels() {
        FoldedStrips strips = Strips.drawn("", "a|a", Strips.STRAIGHT, "a^b;a_b");
        int[] due = {0, 1, 12, 2, 0, 0};
        for (int panel = 0; panel < 6; panel++) {
            CHECKS.due("of the panel " + panel, due[panel], strips.panel(panel, 0));
        }
    }

    private static void handsOfPanels() {
        FoldedStrips strips = new FoldedStrips();
        Strips.drawText(strips, 0, 5, "a|a");
        Strips.drawText(strips, 5, 0, "a|a");
        CHECKS.due("of the panel 0", 5, strips.panel(0, 1));
        CHECKS.due("of the panel 5", 0, strips.panel(5, 1));
        CHECKS.due("of a panel that nobody drew", 3, strips.panel(3, 1));
    }

    private static void columnsOfPanels() {
        FoldedStrips strips = Strips.drawn("a|l", Strips.STRAIGHT, Strips.UPPER_ARCS, Strips.LOWER_ARCS, "", "l|a");
        int[] upper = {1, ALL_COLUMNS, ALL_COLUMNS, 0, 0, 2048};
        int[] lower = {2048, ALL_COLUMNS, 0, ALL_COLUMNS, 0, 1};
        for (int panel = 0; panel < 6; panel++) {
            CHECKS.due("above, of the panel " + panel, upper[panel], strips.panel(panel, 2));
            CHECKS.due("below, of the panel " + panel, lower[panel], strips.panel(panel, 3));
        }
    }

    private static void pairsOfPanels() {
        FoldedStrips strips = Strips.drawn("", Strips.CROSSED, Strips.STRAIGHT, "a|b;b|a", "a^c;b^d;a_c;b_d", "a|b");
        int[] due = {0, 66, 0, 1, 2, 0};
        for (int panel = 0; panel < 6; panel++) {
            CHECKS.due("of the panel " + panel, due[panel], strips.panel(panel, 4));
        }
    }

    private static void looseEndsOfPanels() {
        FoldedStrips strips = Strips.drawn(Strips.STRAIGHT, "", Strips.STRAIGHT, "", "", Strips.ARCS);
        int[] due = {12, 0, 24, 0, 0, 12};
        for (int panel = 0; panel < 6; panel++) {
            CHECKS.due("of the panel " + panel, due[panel], strips.panel(panel, 5));
        }
        strips.join(1, 0, 12);
        CHECKS.due("above it one less", 11, strips.panel(0, 5));
        CHECKS.due("below it one less", 23, strips.panel(2, 5));
        CHECKS.due("it has none", 0, strips.panel(1, 5));
        CHECKS.due("without a loose end", 0, Strips.drawnAll(Strips.ARCS).panel(3, 5));
    }

    private static void linesOfPanels() {
        CHECKS.due("none", 0, new FoldedStrips().panel(0, 6));
        CHECKS.due("twelve", 12, Strips.drawnAll(Strips.STRAIGHT).panel(3, 6));
        CHECKS.due("twelve arcs", 12, Strips.drawnAll(Strips.ARCS).panel(5, 6));
        FoldedStrips strips = withLongestLine();
        for (int panel = 0; panel < 6; panel++) {
            CHECKS.due("one that comes many times through " + panel, 1, strips.panel(panel, 6));
        }
        strips.clear(0);
        CHECKS.due("none that does not come there", 0, strips.panel(0, 6));
        CHECKS.due("six that are apart then", 6, strips.panel(1, 6));
        strips.clear(5);
        CHECKS.due("twelve that are apart then", 12, strips.panel(1, 6));
    }

    private static void strokesDown() {
        FoldedStrips strips = Strips.drawn(Strips.CROSSED, Strips.ARCS, "l|a", "a^l;a_l", "k^l;a|l", "");
        int[] due = {12, 0, 1, 0, 1, 0};
        for (int panel = 0; panel < 6; panel++) {
            CHECKS.due("of the panel " + panel, due[panel], strips.panel(panel, 7));
        }
    }

    private static void panelNoSuch() {
        FoldedStrips strips = Strips.drawnAll("a|a");
        for (int what = 0; what < 8; what++) {
            CHECKS.due("panel -1, " + what, NO_SUCH, strips.panel(-1, what));
            CHECKS.due("panel 6, " + what, NO_SUCH, strips.panel(6, what));
        }
        CHECKS.due("panel 0", 1, strips.panel(0, 0));
        CHECKS.due("panel 5", 1, strips.panel(5, 0));
    }

    private static void panelBadValue() {
        FoldedStrips strips = Strips.drawnAll("a|a");
        CHECKS.due("what -1", BAD_VALUE, strips.panel(0, -1));
        CHECKS.due("what 8", BAD_VALUE, strips.panel(5, 8));
        CHECKS.due("what 0", 1, strips.panel(0, 0));
        CHECKS.due("what 7", 1, strips.panel(5, 7));
    }

    // ---- promise 12

    private static void sentencesOfFold() {
        CHECKS.sentence("fold: 0 its marks, 1 columns at which strokes meet, 2 faults of the kind 0, 3 those of the"
            + " kind 1, as sets", EdgesOfLooksTest::eachColumnOfFolds);
        CHECKS.sentence("fold: an empty fold and a full one", EdgesOfLooksTest::emptyAndFullFolds);
        CHECKS.sentence("fold: NO_SUCH if there is no such fold", EdgesOfLooksTest::foldNoSuch);
        CHECKS.sentence("fold: BAD_VALUE if what is out of range", EdgesOfLooksTest::foldBadValue);
    }

    private static void foldIs(FoldedStrips strips, int fold, int marks, int meet, int missed, int begun) {
        CHECKS.due("marks of " + fold, marks, strips.fold(fold, 0));
        CHECKS.due("what meets at " + fold, meet, strips.fold(fold, 1));
        CHECKS.due("the kind 0 at " + fold, missed, strips.fold(fold, 2));
        CHECKS.due("the kind 1 at " + fold, begun, strips.fold(fold, 3));
    }

    private static void eachColumnOfFolds() {
        for (int fold = 0; fold < 5; fold++) {
            for (int column = 0; column < 12; column++) {
                int one = 1 << column;
                int next = (column + 1) % 12;
                FoldedStrips strips = new FoldedStrips();
                strips.join(fold, 12 + column, next);
                foldIs(strips, fold, one, 0, one, 0);
                strips.join(fold + 1, column, next);
                foldIs(strips, fold, one, one, 0, 1 << next);
                strips.join(fold, 12 + next, column);
                foldIs(strips, fold, one | 1 << next, one | 1 << next, 0, 0);
            }
        }
    }

    private static void emptyAndFullFolds() {
        FoldedStrips strips = Strips.drawn("", Strips.LOWER_ARCS, "", Strips.UPPER_ARCS + ";" + Strips.LOWER_ARCS,
            Strips.STRAIGHT, "");
        foldIs(strips, 0, 0, 0, 0, 0);
        foldIs(strips, 1, ALL_COLUMNS, 0, ALL_COLUMNS, 0);
        foldIs(strips, 2, 0, 0, 0, ALL_COLUMNS);
        foldIs(strips, 3, ALL_COLUMNS, ALL_COLUMNS, 0, 0);
        foldIs(strips, 4, ALL_COLUMNS, 0, ALL_COLUMNS, 0);
    }

    private static void foldNoSuch() {
        FoldedStrips strips = Strips.drawnAll(Strips.STRAIGHT);
        for (int what = 0; what < 4; what++) {
            CHECKS.due("fold -1, " + what, NO_SUCH, strips.fold(-1, what));
            CHECKS.due("fold 5, " + what, NO_SUCH, strips.fold(5, what));
        }
        CHECKS.due("fold 0", ALL_COLUMNS, strips.fold(0, 0));
        CHECKS.due("fold 4", ALL_COLUMNS, strips.fold(4, 0));
    }

    private static void foldBadValue() {
        FoldedStrips strips = Strips.drawn("a|a", "b|b");
        CHECKS.due("what -1", BAD_VALUE, strips.fold(0, -1));
        CHECKS.due("what 4", BAD_VALUE, strips.fold(4, 4));
        CHECKS.due("what 0", 1, strips.fold(0, 0));
        CHECKS.due("what 3", 2, strips.fold(0, 3));
    }

    // ---- promise 13

    private static void sentencesOfHand() {
        CHECKS.sentence("hand: 0 panels that it drew, as a set, 1 strokes of these", EdgesOfLooksTest::panelsOfHands);
        CHECKS.sentence("hand: 2 its faults", EdgesOfLooksTest::faultsOfHands);
        CHECKS.sentence("hand: 3 those of them of the kind 1", EdgesOfLooksTest::kindOneOfHands);
        CHECKS.sentence("hand: a hand that drew nothing and one that drew all", EdgesOfLooksTest::noPanelAndAll);
        CHECKS.sentence("hand: NO_SUCH if there is no such hand", EdgesOfLooksTest::handNoSuch);
        CHECKS.sentence("hand: BAD_VALUE if what is out of range", EdgesOfLooksTest::handBadValue);
    }

    private static FoldedStrips drawnBy(int... hands) {
        FoldedStrips strips = new FoldedStrips();
        for (int panel = 0; panel < 6; panel++) {
            Strips.drawText(strips, panel, hands[panel], Strips.STRAIGHT.substring(0, 4 * panel + 3));
        }
        return strips;
    }

    private static void panelsOfHands() {
        FoldedStrips strips = drawnBy(5, 0, 2, 0, 2, 5);
        int[] panels = {0b001010, 0, 0b010100, 0, 0, 0b100001};
        int[] strokes = {6, 0, 8, 0, 0, 7};
        for (int hand = 0; hand < 6; hand++) {
            CHECKS.due("panels of " + hand, panels[hand], strips.hand(hand, 0));
            CHECKS.due("strokes of " + hand, strokes[hand], strips.hand(hand, 1));
        }
        strips.clear(5);
        CHECKS.due("a panel without strokes is still its", 0b100001, strips.hand(5, 0));
        CHECKS.due("its strokes then", 1, strips.hand(5, 1));
    }

    private static void faultsOfHands() {
        FoldedStrips strips = Strips.drawn("a|a;b_c", "a|a;d|d", "e|a", "", "", "a^c");
        int[] due = {0, 3, 3, 1, 0, 2};
        for (int hand = 0; hand < 6; hand++) {
            CHECKS.due("of the hand " + hand, due[hand], strips.hand(hand, 2));
        }
        strips.exchange(0, 5);
        int[] then = {1, 2, 3, 1, 0, 0};
        for (int hand = 0; hand < 6; hand++) {
            CHECKS.due("of the hand " + hand + " then", then[hand], strips.hand(hand, 2));
        }
    }

    private static void kindOneOfHands() {
        FoldedStrips strips = Strips.drawn("a|a;b_c", "a|a;d|d", "e|a", "", "", "a^c");
        int[] due = {0, 1, 1, 0, 0, 2};
        for (int hand = 0; hand < 6; hand++) {
            CHECKS.due("of the hand " + hand, due[hand], strips.hand(hand, 3));
        }
    }

    private static void handIs(String which, FoldedStrips strips, int panels, int strokes, int faults, int kindOne) {
        CHECKS.due(which + ", panels", panels, strips.hand(4, 0));
        CHECKS.due(which + ", strokes", strokes, strips.hand(4, 1));
        CHECKS.due(which + ", faults", faults, strips.hand(4, 2));
        CHECKS.due(which + ", kind 1", kindOne, strips.hand(4, 3));
    }

    private static FoldedStrips drawnByOne(String... texts) {
        FoldedStrips strips = new FoldedStrips();
        for (int panel = 0; panel < 6; panel++) {
            Strips.drawText(strips, panel, 4, texts[panel]);
        }
        return strips;
    }

    private static void noPanelAndAll() {
        String up = Strips.UPPER_ARCS;
        String low = Strips.LOWER_ARCS;
        handIs("none", drawnBy(0, 1, 2, 3, 5, 5), 0, 0, 0, 0);
        handIs("all that meet", drawnByOne(low, Strips.STRAIGHT, Strips.ARCS, Strips.CROSSED, Strips.STRAIGHT, up),
            63, 60, 0, 0);
        handIs("all of the kind 1", drawnByOne(up, up, up, up, up, up), 63, 36, 60, 60);
        handIs("all of the kind 0", drawnByOne(low, low, low, low, low, low), 63, 36, 60, 0);
        handIs("all strokes", drawnByOne(Strips.ARCS, Strips.ARCS, Strips.ARCS, Strips.ARCS, Strips.ARCS, Strips.ARCS),
            63, 72, 0, 0);
    }

    private static void handNoSuch() {
        FoldedStrips strips = new FoldedStrips();
        for (int what = 0; what < 4; what++) {
            CHECKS.due("hand -1, " + what, NO_SUCH, strips.hand(-1, what));
            CHECKS.due("hand 6, " + what, NO_SUCH, strips.hand(6, what));
        }
        CHECKS.due("hand 0", 1, strips.hand(0, 0));
        CHECKS.due("hand 5", 32, strips.hand(5, 0));
    }

    private static void handBadValue() {
        FoldedStrips strips = Strips.drawn("", "a|a");
        CHECKS.due("what -1", BAD_VALUE, strips.hand(0, -1));
        CHECKS.due("what 4", BAD_VALUE, strips.hand(5, 4));
        CHECKS.due("what 0", 2, strips.hand(1, 0));
        CHECKS.due("what 3", 1, strips.hand(1, 3));
    }

    // ---- promise 14

    private static void sentencesOfLine() {
        CHECKS.sentence("line: 0 its strokes, how many", EdgesOfLooksTest::strokesOfLines);
        CHECKS.sentence("line: 1 whether it is a loop (1 or 0)", EdgesOfLooksTest::loopOrNot);
        CHECKS.sentence("line: 2 the panels in which it has strokes, as a set", EdgesOfLooksTest::panelsOfLines);
        CHECKS.sentence("line: 3 the hands of these, as a set", EdgesOfLooksTest::handsOfLines);
        CHECKS.sentence("line: 4 and 5 its two ends, the lesser one first: 24 times the panel and the end, together",
            EdgesOfLooksTest::endsOfLines);
        CHECKS.sentence("line: NONE for a loop", EdgesOfLooksTest::loopsHaveNoEnds);
        CHECKS.sentence("line: NO_SUCH if there is no such line", EdgesOfLooksTest::lineNoSuch);
        CHECKS.sentence("line: BAD_VALUE if what is out of range", EdgesOfLooksTest::lineBadValue);
    }

    private static void strokesOfLines() {
        CHECKS.due("the least one", 1, Strips.drawn("a|a").line(0, 0));
        CHECKS.due("the longest one", 61, withLongestLine().line(0, 0));
        CHECKS.due("the longest loop", 60, withLongestLoop().line(0, 0));
        CHECKS.due("the least loop", 2, Strips.drawn("a_b", "a^b").line(0, 0));
        FoldedStrips strips = Strips.drawn("a|a;b|b", "a|a", "a|a");
        CHECKS.due("three", 3, strips.line(0, 0));
        CHECKS.due("one", 1, strips.line(1, 0));
    }

    private static void loopOrNot() {
        CHECKS.due("a stroke alone", 0, Strips.drawn("", "a_l").line(0, 1));
        CHECKS.due("the least loop", 1, Strips.drawn("", "", "", "", "a_l", "a^l").line(0, 1));
        CHECKS.due("the longest loop", 1, withLongestLoop().line(0, 1));
        CHECKS.due("the longest line", 0, withLongestLine().line(0, 1));
        FoldedStrips strips = Strips.drawn("a_b;c_d", "a^d;b^c");
        CHECKS.due("a loop of four strokes", 1, strips.line(0, 1));
        CHECKS.due("it has all of them", 4, strips.line(0, 0));
        strips.rub(1, 1);
        CHECKS.due("without one of them", 0, strips.line(0, 1));
    }

    private static void panelsOfLines() {
        for (int panel = 0; panel < 6; panel++) {
            FoldedStrips strips = new FoldedStrips();
            strips.join(panel, 0, 12);
            CHECKS.due("of one in the panel " + panel, 1 << panel, strips.line(0, 2));
        }
        CHECKS.due("of one that is everywhere", 63, withLongestLine().line(0, 2));
        CHECKS.due("of a loop that is everywhere", 63, withLongestLoop().line(0, 2));
        FoldedStrips strips = Strips.drawn("b|b", "a|a;b|c", "a|a", "", "a|a", "a|a");
        CHECKS.due("of the first one", 0b000011, strips.line(0, 2));
        CHECKS.due("of the next one", 0b000110, strips.line(1, 2));
        CHECKS.due("of the last one", 0b110000, strips.line(2, 2));
    }

    private static void handsOfLines() {
        FoldedStrips strips = drawnBy(5, 5, 5, 5, 5, 5);
        CHECKS.due("one hand for all", 0b100000, strips.line(0, 3));
        FoldedStrips two = drawnBy(0, 3, 0, 3, 3, 0);
        CHECKS.due("two hands", 0b001001, two.line(0, 3));
        CHECKS.due("its panels are other ones", 0b111111, two.line(0, 2));
        CHECKS.due("six hands", 63, withLongestLoop().line(0, 3));
        Strips.drawText(two, 1, 5, "a|a");
        CHECKS.due("a third hand", 0b101001, two.line(0, 3));
        two.exchange(0, 1);
        CHECKS.due("the hands stay with their panels", 0b101001, two.line(0, 3));
        two.clear(1);
        CHECKS.due("the hand of a panel without strokes is not there", 0b100000, two.line(0, 3));
    }

    private static void endsAre(String which, FoldedStrips strips, int line, int lesser, int greater) {
        CHECKS.due(which + ", the lesser one", lesser, strips.line(line, 4));
        CHECKS.due(which + ", the greater one", greater, strips.line(line, 5));
    }

    private static void endsOfLines() {
        endsAre("the first end and the last one", Strips.drawn("a|l", "l|l", "l|l", "l|l", "l|l", "l|l"), 0, 0, 143);
        endsAre("of one stroke upwards", Strips.drawn("", "l|a"), 0, 35, 36);
        endsAre("of the longest line", withLongestLine(), 0, 0, 11);
        FoldedStrips strips = Strips.drawn("", "", "b_c", "b|l;c|a");
        endsAre("of one that begins in the middle", strips, 0, 84, 95);
        FoldedStrips other = new FoldedStrips();
        for (int panel = 0; panel < 6; panel++) {
            for (int end = 0; end < 12; end++) {
                other.clear(panel);
                other.join(panel, 23 - end, end);
                endsAre("of " + panel + ", " + end, other, 0, 24 * panel + end, 24 * panel + 23 - end);
            }
            other.clear(panel);
        }
    }

    private static void loopsHaveNoEnds() {
        endsAre("of the least loop", Strips.drawn("a_b", "a^b"), 0, NONE, NONE);
        endsAre("of the longest loop", withLongestLoop(), 0, NONE, NONE);
        FoldedStrips strips = Strips.drawn("a_b;c|c", "a^b");
        endsAre("of a line beside a loop", strips, 0, 2, 14);
        endsAre("of the loop beside it", strips, 1, NONE, NONE);
    }

    private static void lineNoSuch() {
        FoldedStrips strips = new FoldedStrips();
        for (int what = 0; what < 6; what++) {
            CHECKS.due("line 0 without any, " + what, NO_SUCH, strips.line(0, what));
        }
        FoldedStrips full = Strips.drawnAll(Strips.ARCS);
        for (int what = 0; what < 6; what++) {
            CHECKS.due("line -1, " + what, NO_SUCH, full.line(-1, what));
            CHECKS.due("line 42 of 42, " + what, NO_SUCH, full.line(42, what));
        }
        CHECKS.due("line 0", 1, full.line(0, 0));
        CHECKS.due("line 41", 1, full.line(41, 0));
        CHECKS.due("its ends", 143, full.line(41, 5));
        full.clear(5);
        CHECKS.due("line 35 of 36", 1, full.line(35, 0));
        CHECKS.due("line 36 of 36", NO_SUCH, full.line(36, 0));
        for (int panel = 0; panel < 5; panel++) {
            full.clear(panel);
        }
        CHECKS.due("line 0 without any that is left", NO_SUCH, full.line(0, 0));
    }

    private static void lineBadValue() {
        FoldedStrips strips = Strips.drawn("a|a;b_c", "b^c");
        for (int line = 0; line < 2; line++) {
            CHECKS.due("what -1 of " + line, BAD_VALUE, strips.line(line, -1));
            CHECKS.due("what 6 of " + line, BAD_VALUE, strips.line(line, 6));
        }
        CHECKS.due("what 0", 1, strips.line(0, 0));
        CHECKS.due("what 5", 12, strips.line(0, 5));
    }

    // ---- promise 15

    private static void sentencesOfCount() {
        CHECKS.sentence("count: each of them in a new object", EdgesOfLooksTest::leastCounts);
        CHECKS.sentence("count: 0 strokes", () -> most(0, 72, Strips.drawnAll(Strips.STRAIGHT)));
        CHECKS.sentence("count: 1 lines", () -> most(1, 42, Strips.drawnAll(Strips.ARCS)));
        CHECKS.sentence("count: 2 loops", () -> most(2, 30, Strips.drawnAll(Strips.ARCS)));
        CHECKS.sentence("count: 3 loose ends", EdgesOfLooksTest::mostLooseEnds);
        CHECKS.sentence("count: 4 free ends", EdgesOfLooksTest::freeEnds);
        CHECKS.sentence("count: 5 folds' faults", EdgesOfLooksTest::mostFaults);
        CHECKS.sentence("count: 6 pairs of strokes that cross", () -> most(6, 396, Strips.drawnAll(Strips.CROSSED)));
        CHECKS.sentence("count: 7 the strokes of the longest line (0 without any)", EdgesOfLooksTest::longestLines);
        CHECKS.sentence("count: 8 lines from the upper edge of the panel 0 to the lower edge of the panel 5",
            EdgesOfLooksTest::linesFromTopToBottom);
        CHECKS.sentence("count: 9 the length of the pad", EdgesOfLooksTest::lengthsOfThePad);
        CHECKS.sentence("count: 10 how many changes can be undone", EdgesOfLooksTest::changesToUndo);
        CHECKS.sentence("count: BAD_VALUE if what is out of range", EdgesOfLooksTest::countBadValue);
    }

    private static void leastCounts() {
        FoldedStrips strips = new FoldedStrips();
        for (int what = 0; what <= 10; what++) {
            CHECKS.due("count " + what, 0, strips.count(what));
        }
    }

    private static void most(int what, int due, FoldedStrips strips) {
        CHECKS.due("the most that can be", due, strips.count(what));
        strips.clear(0);
        CHECKS.holds("less without a panel", strips.count(what) < due);
    }

    private static void mostLooseEnds() {
        most(3, 60, Strips.drawn(Strips.STRAIGHT, "", Strips.STRAIGHT, "", Strips.STRAIGHT));
        CHECKS.due("none of a full strip", 0, Strips.drawnAll(Strips.CROSSED).count(3));
        CHECKS.due("none that is free", 0, Strips.drawn("a^b", "", "", "", "", "a_b").count(3));
    }

    private static void freeEnds() {
        most(4, 24, Strips.drawnAll(Strips.STRAIGHT));
        CHECKS.due("twelve at the top", 12, Strips.drawn(Strips.UPPER_ARCS).count(4));
        CHECKS.due("none below the panel 0", 0, Strips.drawn(Strips.LOWER_ARCS, Strips.ARCS).count(4));
        CHECKS.due("none above the panel 5", 0, Strips.drawn("", "", "", "", Strips.ARCS, Strips.UPPER_ARCS).count(4));
        CHECKS.due("twelve at the bottom", 12, Strips.drawn("", "", "", "", "", Strips.LOWER_ARCS).count(4));
        CHECKS.due("one", 1, Strips.drawn("l|a").count(4));
    }

    private static void mostFaults() {
        String up = Strips.UPPER_ARCS;
        String low = Strips.LOWER_ARCS;
        CHECKS.due("all of the kind 1", 60, Strips.drawnAll(up).count(5));
        CHECKS.due("all of the kind 0", 60, Strips.drawnAll(low).count(5));
        CHECKS.due("of both kinds", 60, Strips.drawn(Strips.ARCS, "", Strips.ARCS, "", Strips.ARCS).count(5));
        CHECKS.due("at all folds but the last one", 48, Strips.drawn(low, low, low, low).count(5));
        CHECKS.due("one", 1, Strips.drawn("a|a").count(5));
        CHECKS.due("none", 0, Strips.drawnAll(Strips.CROSSED).count(5));
    }

    private static void longestLines() {
        CHECKS.due("without any", 0, new FoldedStrips().count(7));
        CHECKS.due("one stroke", 1, Strips.drawn("a|a;b|b").count(7));
        CHECKS.due("the longest one that can be", 61, withLongestLine().count(7));
        CHECKS.due("the longest loop that can be", 60, withLongestLoop().count(7));
        CHECKS.due("the last one of some", 3, Strips.drawn("a|a", "c|c", "c|d;b|b", "d|c").count(7));
        CHECKS.due("the first one of some", 3, Strips.drawn("a|a", "a|a;b|b", "a|b;c|c", "c|c").count(7));
        FoldedStrips strips = withLongestLine();
        for (int panel = 0; panel < 6; panel++) {
            strips.clear(panel);
        }
        CHECKS.due("without any that is left", 0, strips.count(7));
    }

    private static void linesFromTopToBottom() {
        CHECKS.due("twelve", 12, Strips.drawnAll(Strips.CROSSED).count(8));
        CHECKS.due("one", 1, Strips.drawn("a|l", "l|a", "a|l", "l|a", "a|l", "l|a").count(8));
        CHECKS.due("from the top to the top", 0, withLongestLine().count(8));
        CHECKS.due("a loop", 0, withLongestLoop().count(8));
        CHECKS.due("from the bottom to the bottom", 0, Strips.drawn(Strips.LOWER_ARCS, Strips.STRAIGHT,
            Strips.STRAIGHT, Strips.STRAIGHT, Strips.STRAIGHT, Strips.STRAIGHT).count(8));
        CHECKS.due("it ends ahead of the last panel", 0, Strips.drawn("a|a", "a|a", "a|a", "a|a", "a|a").count(8));
        CHECKS.due("it begins behind the first panel", 0, Strips.drawn("", "a|a", "a|a", "a|a", "a|a", "a|a").count(8));
        CHECKS.due("it ends at the last panel's upper edge", 0,
            Strips.drawn("a|a", "a|a", "a|a", "a|a", "a|a", "a^l").count(8));
        CHECKS.due("it begins at the first panel's lower edge", 0,
            Strips.drawn("a_l", "l|a", "a|a", "a|a", "a|a", "a|a").count(8));
        FoldedStrips winding = Strips.drawn("a|c;a_b", "b^c;a|a", "a|a", "a|a", "a|a", "a|l");
        CHECKS.due("it goes up and down between", 1, winding.count(8));
        CHECKS.due("all strokes are its", 8, winding.line(0, 0));
    }

    private static void lengthsOfThePad() {
        FoldedStrips strips = new FoldedStrips();
        for (int length = 1; length <= 60; length++) {
            strips.put('x');
            CHECKS.due("with " + length, length, strips.count(9));
        }
        strips.put('x');
        CHECKS.due("it is full", 60, strips.count(9));
        strips.wipe();
        CHECKS.due("it is empty", 0, strips.count(9));
    }

    private static void changesToUndo() {
        FoldedStrips strips = new FoldedStrips();
        for (int many = 1; many <= 8; many++) {
            strips.clear(0);
            CHECKS.due("behind " + many, Math.min(many, 6), strips.count(10));
        }
        for (int left = 5; left >= 0; left--) {
            strips.undo();
            CHECKS.due("left", left, strips.count(10));
        }
        strips.undo();
        CHECKS.due("none is left", 0, strips.count(10));
    }

    private static void countBadValue() {
        FoldedStrips strips = Strips.drawn("a|a");
        CHECKS.due("what -1", BAD_VALUE, strips.count(-1));
        CHECKS.due("what 11", BAD_VALUE, strips.count(11));
        CHECKS.due("what 0", 1, strips.count(0));
        CHECKS.due("what 10", 1, strips.count(10));
    }

    // ---- nothing changes

    private static void leavesAll(String looks, Consumer<FoldedStrips> asked) {
        CHECKS.holds(looks, Strips.holdsTheSame(
            () -> Strips.inUse("a|a;b_c", "a|b;b^c", "b|l", "k_l", "", "a|a"), asked));
    }

    private static void nothingChanges() {
        for (int panel = 0; panel < 6; panel++) {
            int number = panel;
            leavesAll("end", strips -> {
                for (int at = 0; at < 96; at++) {
                    strips.end(number, at / 4, at % 4);
                }
            });
            leavesAll("panel, fold, hand, line", strips -> {
                for (int what = 0; what < 8; what++) {
                    strips.panel(number, what);
                    strips.fold(number, what);
                    strips.hand(number, what);
                    strips.line(number, what);
                }
            });
        }
        leavesAll("count", strips -> {
            for (int what = 0; what <= 10; what++) {
                strips.count(what);
            }
        });
    }
}
