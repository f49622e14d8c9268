import java.util.ArrayList;
import java.util.List;

/** The document's terms for panels, ends, strokes, folds, faults, lines and crossing, gone through at their edges. */
public final class TermsTest {
    private static final Checks CHECKS = new Checks("TermsTest");
    private static final int NO_SUCH = -1, NOT_POSSIBLE = -5, NONE = -6;
    private static final int OPEN = 0, MEETS = 1, LOOSE = 2, FREE = 3;

    public static void main(String[] args) {
        CHECKS.sentence("The strip has 6 panels, 0 to 5, from top to bottom", TermsTest::sixPanels);
        CHECKS.sentence("A panel has 24 ends: at its upper edge the ends 0 to 11, from left to right, at its lower edge"
            + " the ends 12 to 23, from left to right", TermsTest::twentyFourEnds);
        CHECKS.sentence("A stroke of a panel joins two ends of it that are not the same", TermsTest::allStrokes);
        CHECKS.sentence("no end has more than one stroke", TermsTest::oneStrokeAnEnd);
        CHECKS.sentence("A panel has a hand that drew it, 0 to 5 (at first the number of the panel)", TermsTest::hands);
        CHECKS.sentence("Between the panels k and k + 1 there is the fold k, 0 to 4", TermsTest::fiveFolds);
        CHECKS.sentence("The marks of the fold k are the columns in which the panel k has a stroke at its lower edge",
            TermsTest::marks);
        CHECKS.sentence("The end at a column of the lower edge of a panel and the one at the same column of the upper"
            + " edge of the next panel are neighbours", TermsTest::neighbours);
        CHECKS.sentence("Two strokes meet, if they have neighbours", TermsTest::strokesMeet);
        CHECKS.sentence("An end with a stroke is loose, if its neighbour has none", TermsTest::looseEnds);
        CHECKS.sentence("ends at the upper edge of the panel 0 and at the lower edge of the panel 5 have no neighbours,"
            + " and are free, not loose", TermsTest::freeEnds);
        CHECKS.sentence("Each column of a fold at which just one of both ends has a stroke is a fault",
            TermsTest::faultsOfColumns);
        CHECKS.sentence("a fault of the hand that drew the panel below the fold", TermsTest::whoseFaultItIs);
        CHECKS.sentence("of the kind 0, if the panel above has the stroke, otherwise of the kind 1",
            TermsTest::kindsOfFaults);
        CHECKS.sentence("A line is strokes of which each meets the next one, as many as there are so",
            TermsTest::linesGrow);
        CHECKS.sentence("it is a loop, if it comes back to where it began", TermsTest::loops);
        CHECKS.sentence("otherwise it has two ends that are loose or free", TermsTest::twoEnds);
        CHECKS.sentence("Lines are numbered by their first strokes: the strokes are gone through by panels",
            TermsTest::linesByPanels);
        CHECKS.sentence("in a panel by the lesser numbers of their ends", TermsTest::linesByLesserEnds);
        CHECKS.sentence("a line is numbered when the first one of its strokes comes", TermsTest::linesByFirstStrokes);
        CHECKS.sentence("Two strokes of a panel cross, if, going around the edge of the panel, just one end of the one"
            + " stands between both ends of the other one", TermsTest::allPairsOfStrokes);
        CHECKS.sentence("Two strokes of a panel cross: not those of two panels", TermsTest::otherPanelsDoNotCross);
        CHECKS.close();
    }

    // ---- panels, ends, strokes

    private static void sixPanels() {
        FoldedStrips strips = new FoldedStrips();
        CHECKS.due("the panel ahead of the first one", NO_SUCH, strips.join(-1, 0, 12));
        for (int panel = 0; panel < 6; panel++) {
            CHECKS.due("panel " + panel, 1, strips.join(panel, 7, 19));
            CHECKS.due("one line, from the top down to " + panel, 1, strips.count(1));
            CHECKS.due("its last end", 24 * panel + 19, strips.line(0, 5));
        }
        CHECKS.due("the panel behind the last one", NO_SUCH, strips.join(6, 0, 12));
        CHECKS.due("the line through all", 1, strips.count(8));
    }

    private static void twentyFourEnds() {
        for (int end = 0; end < 24; end++) {
            FoldedStrips strips = new FoldedStrips();
            boolean upper = end < 12;
            int column = upper ? end : end - 12;
            int aside = (column + 1) % 12;
            CHECKS.due("end " + end, 1, strips.join(3, end, upper ? 12 + aside : aside));
            CHECKS.due("upper columns with the end " + end, 1 << (upper ? column : aside), strips.panel(3, 2));
            CHECKS.due("lower columns with the end " + end, 1 << (upper ? aside : column), strips.panel(3, 3));
        }
        FoldedStrips strips = new FoldedStrips();
        CHECKS.due("end -1", NO_SUCH, strips.join(3, -1, 5));
        CHECKS.due("end 24", NO_SUCH, strips.join(3, 24, 5));
        CHECKS.due("arc of the last upper end and the first lower one", 1, strips.join(3, 11, 12));
        CHECKS.due("its upper column", 2048, strips.panel(3, 2));
        CHECKS.due("its lower column", 1, strips.panel(3, 3));
    }

    private static void allStrokes() {
        for (int end = 0; end < 24; end++) {
            FoldedStrips strips = new FoldedStrips();
            for (int other = 0; other < 24; other++) {
                String call = end + " to " + other;
                if (other == end) {
                    CHECKS.due(call, -2, strips.join(4, end, other));
                    continue;
                }
                CHECKS.due(call, 1, strips.join(4, end, other));
                CHECKS.due(call + ", from the one", other, strips.end(4, end, 0));
                CHECKS.due(call + ", from the other", end, strips.end(4, other, 0));
                CHECKS.due(call + ", rubbed", end, strips.rub(4, other));
            }
        }
    }

    private static void oneStrokeAnEnd() {
        for (int end = 0; end < 24; end++) {
            FoldedStrips strips = new FoldedStrips();
            int taken = (end + 5) % 24;
            strips.join(0, end, taken);
            for (int other = 0; other < 24; other++) {
                if (other != end) {
                    CHECKS.due(end + " is taken", NOT_POSSIBLE, strips.join(0, end, other));
                    CHECKS.due(end + " is taken, as the second one", NOT_POSSIBLE, strips.join(0, other, end));
                }
            }
            CHECKS.due("its stroke stays", taken, strips.end(0, end, 0));
            CHECKS.due("in the next panel it is not", 1, strips.join(1, end, taken));
        }
    }

    private static void hands() {
        FoldedStrips strips = new FoldedStrips();
        for (int panel = 0; panel < 6; panel++) {
            CHECKS.due("at first, of the panel " + panel, panel, strips.panel(panel, 1));
            CHECKS.due("at first, of the hand " + panel, 1 << panel, strips.hand(panel, 0));
        }
        for (int hand = 0; hand < 6; hand++) {
            Strips.drawText(strips, 2, hand, "a|a");
            CHECKS.due("who drew", hand, strips.panel(2, 1));
        }
        CHECKS.due("the hand -1", NO_SUCH, strips.hand(-1, 0));
        CHECKS.due("the hand 6", NO_SUCH, strips.hand(6, 0));
    }

    // ---- folds

    private static void fiveFolds() {
        for (int fold = 0; fold < 5; fold++) {
            FoldedStrips strips = new FoldedStrips();
            strips.join(fold, 12, 23);
            strips.join(fold + 1, 0, 1);
            for (int other = 0; other < 5; other++) {
                CHECKS.due("marks of " + other, other == fold ? 2049 : 0, strips.fold(other, 0));
                CHECKS.due("meets at " + other, other == fold ? 1 : 0, strips.fold(other, 1));
                CHECKS.due("kind 0 at " + other, other == fold ? 2048 : 0, strips.fold(other, 2));
                CHECKS.due("kind 1 at " + other, other == fold ? 2 : 0, strips.fold(other, 3));
            }
        }
        FoldedStrips strips = new FoldedStrips();
        CHECKS.due("fold -1", NO_SUCH, strips.fold(-1, 0));
        CHECKS.due("fold 5", NO_SUCH, strips.fold(5, 0));
    }

    private static void marks() {
        FoldedStrips strips = new FoldedStrips();
        strips.join(1, 0, 1);
        CHECKS.due("an upper arc makes no mark", 0, strips.fold(1, 0));
        strips.join(2, 2, 3);
        CHECKS.due("the panel below makes no mark", 0, strips.fold(1, 0));
        int set = 0;
        for (int column = 0; column < 12; column += 2) {
            strips.join(1, 12 + column, 13 + column);
            set |= 3 << column;
            CHECKS.due("marks up to " + column, set, strips.fold(1, 0));
        }
        CHECKS.due("all are marks", 4095, strips.fold(1, 0));
        strips.clear(2);
        CHECKS.due("they are, without the panel below", 4095, strips.fold(1, 0));
    }

    private static void neighbours() {
        for (int panel = 0; panel < 5; panel++) {
            for (int column = 0; column < 12; column++) {
                FoldedStrips strips = new FoldedStrips();
                int aside = (column + 1) % 12;
                strips.join(panel, 12 + column, aside);
                strips.join(panel + 1, column, 12 + aside);
                CHECKS.due("from above", MEETS, strips.end(panel, 12 + column, 1));
                CHECKS.due("from below", MEETS, strips.end(panel + 1, column, 1));
                CHECKS.due("not the upper end", panel == 0 ? FREE : LOOSE, strips.end(panel, aside, 1));
                CHECKS.due("not the lower end", panel == 4 ? FREE : LOOSE, strips.end(panel + 1, 12 + aside, 1));
                strips.clear(panel + 1);
                strips.join(panel + 1, aside, 12 + column);
                CHECKS.due("not one column aside", LOOSE, strips.end(panel, 12 + column, 1));
                CHECKS.due("not one column aside, below", LOOSE, strips.end(panel + 1, aside, 1));
            }
        }
    }

    private static void strokesMeet() {
        FoldedStrips strips = Strips.drawn("a_b", "b|c");
        CHECKS.due("they meet at one column", 2, strips.fold(0, 1));
        CHECKS.due("so they are one line", 1, strips.count(1));
        strips.clear(1);
        strips.join(1, 2, 12);
        CHECKS.due("they do not meet", 0, strips.fold(0, 1));
        CHECKS.due("so they are two lines", 2, strips.count(1));
        strips.join(1, 0, 1);
        CHECKS.due("they meet at two columns", 3, strips.fold(0, 1));
        CHECKS.due("a stroke beside them", 2, strips.count(1));
        FoldedStrips far = Strips.drawn("a|a", "", "a|a");
        CHECKS.due("over an empty panel they do not", 2, far.count(1));
        FoldedStrips same = Strips.drawn("", "a|b;b|a");
        CHECKS.due("in one panel they do not", 2, same.count(1));
    }

    // ---- loose and free ends

    private static boolean hasNoNeighbour(int panel, int end) {
        return panel == 0 && end < 12 || panel == 5 && end >= 12;
    }

    private static void looseEnds() {
        for (int panel = 0; panel < 6; panel++) {
            for (int end = 0; end < 24; end++) {
                if (!hasNoNeighbour(panel, end)) {
                    boolean upper = end < 12;
                    looseEnd(panel, end, upper ? panel - 1 : panel + 1, upper ? end + 12 : end - 12);
                }
            }
        }
    }

    private static void looseEnd(int panel, int end, int across, int neighbour) {
        FoldedStrips strips = new FoldedStrips();
        CHECKS.due("an open end", OPEN, strips.end(panel, end, 1));
        strips.join(panel, end, (end + 3) % 24);
        CHECKS.due("its neighbour has none", LOOSE, strips.end(panel, end, 1));
        CHECKS.due("its neighbour is open, not loose", OPEN, strips.end(across, neighbour, 1));
        strips.join(across, neighbour, (neighbour + 12) % 24);
        CHECKS.due("its neighbour has one", MEETS, strips.end(panel, end, 1));
        strips.rub(panel, end);
        CHECKS.due("it has none itself", OPEN, strips.end(panel, end, 1));
        CHECKS.due("its neighbour is loose then", LOOSE, strips.end(across, neighbour, 1));
    }

    private static void freeEnds() {
        for (int column = 0; column < 12; column++) {
            FoldedStrips strips = new FoldedStrips();
            CHECKS.due("open at the top", OPEN, strips.end(0, column, 1));
            CHECKS.due("open at the bottom", OPEN, strips.end(5, 12 + column, 1));
            CHECKS.due("open ends are not free", 0, strips.count(4));
            strips.join(0, column, (column + 1) % 12);
            CHECKS.due("free at the top", FREE, strips.end(0, column, 1));
            CHECKS.due("both are free", 2, strips.count(4));
            CHECKS.due("none is loose", 0, strips.count(3));
            strips.join(5, 12 + column, 12 + (column + 1) % 12);
            CHECKS.due("free at the bottom", FREE, strips.end(5, 12 + column, 1));
            CHECKS.due("all four are free", 4, strips.count(4));
            CHECKS.due("still none is loose", 0, strips.count(3));
            CHECKS.due("none of the first panel", 0, strips.panel(0, 5));
            CHECKS.due("none of the last panel", 0, strips.panel(5, 5));
        }
    }

    // ---- faults

    private static void faultsOfColumns() {
        for (int fold = 0; fold < 5; fold++) {
            for (int column = 0; column < 12; column++) {
                FoldedStrips strips = new FoldedStrips();
                int mate = (column + 1) % 12;
                CHECKS.due("none of both", 0, strips.fold(fold, 2) | strips.fold(fold, 3));
                strips.join(fold, 12 + column, mate);
                CHECKS.due("just the one above", 1 << column, strips.fold(fold, 2));
                strips.join(fold + 1, column, 12 + mate);
                CHECKS.due("both", 0, strips.fold(fold, 2) | strips.fold(fold, 3));
                strips.rub(fold, mate);
                CHECKS.due("just the one below", 1 << column, strips.fold(fold, 3));
            }
        }
    }

    private static void whoseFaultItIs() {
        for (int fold = 0; fold < 5; fold++) {
            FoldedStrips strips = new FoldedStrips();
            strips.join(fold, 12, 13);
            strips.join(fold + 1, 2, 3);
            for (int hand = 0; hand < 6; hand++) {
                CHECKS.due("faults of the hand " + hand, hand == fold + 1 ? 4 : 0, strips.hand(hand, 2));
            }
            strips.exchange(fold + 1, 0);
            strips.exchange(fold + 1, 0);
            CHECKS.due("the hand went with its panel and back", 4, strips.hand(fold + 1, 2));
        }
        FoldedStrips strips = Strips.drawn("", "", "", "a|b");
        Strips.drawText(strips, 4, 5, "c^d");
        CHECKS.due("the hand that drew it, not the panel's number", 3, strips.hand(5, 2));
        CHECKS.due("not the number of the panel", 0, strips.hand(4, 2));
        strips.clear(4);
        CHECKS.due("it keeps the hand without strokes", 1, strips.hand(5, 2));
        FoldedStrips top = Strips.drawn("a|a");
        CHECKS.due("the panel 0 has no fold above", 0, top.hand(0, 2));
        FoldedStrips bottom = Strips.drawn("", "", "", "", "", "a_b");
        CHECKS.due("below the panel 5 there is no fold", 0, bottom.hand(5, 2));
    }

    private static void kindsOfFaults() {
        FoldedStrips strips = Strips.drawn("a_b;c_d", "b^c;k^l");
        CHECKS.due("marks that were not taken up", 0b1001, strips.fold(0, 2));
        CHECKS.due("strokes that begin without a mark", 0b110000000000, strips.fold(0, 3));
        CHECKS.due("all faults", 4, strips.hand(1, 2));
        CHECKS.due("those of the kind 1", 2, strips.hand(1, 3));
    }

    // ---- lines

    private static void linesGrow() {
        FoldedStrips strips = new FoldedStrips();
        CHECKS.due("no line without strokes", 0, strips.count(1));
        strips.join(2, 0, 12);
        CHECKS.due("a stroke alone is a line", 1, strips.line(0, 0));
        strips.join(4, 0, 12);
        CHECKS.due("two that do not meet", 2, strips.count(1));
        strips.join(3, 0, 12);
        CHECKS.due("one between joins them", 1, strips.count(1));
        CHECKS.due("all three are in it", 3, strips.line(0, 0));
        strips.join(3, 1, 13);
        CHECKS.due("one aside is not", 3, strips.line(0, 0));
        strips.rub(3, 0);
        CHECKS.due("without the one between they are apart", 3, strips.count(1));
    }

    private static void loops() {
        FoldedStrips strips = Strips.drawn("a_b", "a^b");
        CHECKS.due("two strokes", 1, strips.line(0, 1));
        strips.rub(1, 0);
        strips.join(1, 1, 2);
        CHECKS.due("it does not come back", 0, strips.line(0, 1));
        FoldedStrips wide = Strips.drawn("a_l", "a|a;l|b", "a|a;b|b", "a|l;b|a", "a|a;l|l", "a^l");
        CHECKS.due("through all panels", 1, wide.line(0, 1));
        CHECKS.due("all its strokes", 10, wide.line(0, 0));
        wide.rub(5, 11);
        CHECKS.due("its end is gone", 0, wide.line(0, 1));
        FoldedStrips top = Strips.drawn("a|a;b|b", "a^b");
        CHECKS.due("ends at the top do not come back", 0, top.line(0, 1));
        FoldedStrips bottom = Strips.drawn("", "", "", "", "a_b", "a|b;b|a");
        CHECKS.due("ends at the bottom do not come back", 0, bottom.line(0, 1));
    }

    private static void ends(String what, FoldedStrips strips, int lesser, int greater) {
        CHECKS.due(what + ", the lesser end", lesser, strips.line(0, 4));
        CHECKS.due(what + ", the greater end", greater, strips.line(0, 5));
    }

    private static void twoEnds() {
        ends("free and free", Strips.drawn("a^l"), 0, 11);
        ends("free and loose", Strips.drawn("l|a"), 11, 12);
        ends("loose and loose", Strips.drawn("", "", "", "a_l"), 84, 95);
        ends("loose and free", Strips.drawn("", "", "", "", "", "l|l"), 131, 143);
        ends("free at the bottom", Strips.drawn("", "", "", "", "", "a_l"), 132, 143);
        ends("both at the same fold", Strips.drawn("", "a_b;c_d", "b^c"), 36, 39);
    }

    private static void linesByPanels() {
        FoldedStrips strips = new FoldedStrips();
        for (int panel = 5; panel >= 0; panel--) {
            strips.join(panel, panel, 23 - panel);
        }
        for (int panel = 0; panel < 6; panel++) {
            CHECKS.due("the line of the panel " + panel, panel, strips.end(panel, panel, 2));
            CHECKS.due("the panel of the line " + panel, 1 << panel, strips.line(panel, 2));
        }
        CHECKS.due("a line more", NO_SUCH, strips.line(6, 0));
    }

    private static void linesByLesserEnds() {
        FoldedStrips strips = new FoldedStrips();
        strips.join(3, 23, 11);
        strips.join(3, 22, 12);
        strips.join(3, 10, 13);
        strips.join(3, 21, 0);
        strips.join(3, 9, 1);
        CHECKS.due("lesser end 0", 0, strips.end(3, 21, 2));
        CHECKS.due("lesser end 1", 1, strips.end(3, 9, 2));
        CHECKS.due("lesser end 10", 2, strips.end(3, 13, 2));
        CHECKS.due("lesser end 11", 3, strips.end(3, 23, 2));
        CHECKS.due("lesser end 12", 4, strips.end(3, 22, 2));
    }

    private static void linesByFirstStrokes() {
        FoldedStrips strips = Strips.drawn("l|a", "a|l;b|b", "a|a;b|k;l|c");
        CHECKS.due("the line of the last stroke", 0, strips.end(2, 14, 2));
        CHECKS.due("the line that begins second", 1, strips.end(2, 22, 2));
        CHECKS.due("the line of the stroke that comes first there", 2, strips.end(2, 12, 2));
        CHECKS.due("an end without a stroke has none", NONE, strips.end(2, 23, 2));
    }

    // ---- crossing

    /** The edge is gone around: the upper edge from left to right, then the lower edge from right to left. */
    private static List<Integer> around() {
        List<Integer> edge = new ArrayList<>();
        for (int end = 0; end <= 11; end++) {
            edge.add(end);
        }
        for (int end = 23; end >= 12; end--) {
            edge.add(end);
        }
        return edge;
    }

    /** Any four ends make three pairs of strokes; of these just the one whose ends take turns is crossing. */
    private static void allPairsOfStrokes() {
        List<Integer> edge = around();
        for (int a = 0; a < 24; a++) {
            for (int b = a + 1; b < 24; b++) {
                for (int c = b + 1; c < 24; c++) {
                    FoldedStrips strips = new FoldedStrips();
                    for (int d = c + 1; d < 24; d++) {
                        pairsOf(strips, edge.get(a), edge.get(b), edge.get(c), edge.get(d));
                    }
                }
            }
        }
    }

    /** Four ends in the order in which they come when the edge is gone around. */
    private static void pairsOf(FoldedStrips strips, int one, int two, int three, int four) {
        pair(strips, one, two, three, four, 0);
        pair(strips, one, four, two, three, 0);
        pair(strips, one, three, two, four, 1);
    }

    private static void pair(FoldedStrips strips, int one, int mate, int two, int other, int crossing) {
        String what = one + "-" + mate + " and " + two + "-" + other;
        strips.join(0, one, mate);
        strips.join(0, other, two);
        CHECKS.due(what, crossing, strips.panel(0, 4));
        CHECKS.due(what + ", from the first one", crossing, strips.end(0, mate, 3));
        CHECKS.due(what + ", from the second one", crossing, strips.end(0, two, 3));
        strips.clear(0);
    }

    private static void otherPanelsDoNotCross() {
        FoldedStrips strips = Strips.drawn("a|b", "b|a;c|c", "b|a");
        CHECKS.due("no pair", 0, strips.count(6));
        CHECKS.due("none of the one", 0, strips.end(0, 0, 3));
        CHECKS.due("none of the other", 0, strips.end(1, 1, 3));
    }
}
