/** Promises 10 to 15 in ordinary use: what there is. */
public final class LooksTest {
    private static final Checks CHECKS = new Checks("LooksTest");

    public static void main(String[] args) {
        endAlone();
        endHow();
        endLinesAndCrossings();
        panel();
        panelByItself();
        fold();
        hand();
        lineThatEnds();
        lineThatWinds();
        lineLoops();
        linesInTheirOrder();
        count();
        countCrossings();
        countLongest();
        countFreeEnds();
        countManyLines();
        countFromTopToBottom();
        countLinesThatJustPassBy();
        countAfterLinesAreGone();
        CHECKS.close();
    }

    // Promise 10
    private static void endAlone() {
        FoldedStrips strips = new FoldedStrips();
        strips.join(2, 3, 20);
        CHECKS.due("end: other", 20, strips.end(2, 3, 0));
        CHECKS.due("end: other, back", 3, strips.end(2, 20, 0));
        CHECKS.due("end: other without a stroke", -6, strips.end(2, 4, 0));
        CHECKS.due("end: how, without a stroke", 0, strips.end(2, 4, 1));
        CHECKS.due("end: line without a stroke", -6, strips.end(2, 4, 2));
        CHECKS.due("end: crossings without a stroke", -6, strips.end(2, 4, 3));
        CHECKS.due("end: crossings of a stroke alone", 0, strips.end(2, 3, 3));
        strips.join(5, 23, 12);
        CHECKS.due("end: the last end of all", 12, strips.end(5, 23, 0));
    }

    private static void endHow() {
        FoldedStrips strips = new FoldedStrips();
        strips.join(0, 5, 17);
        strips.join(1, 5, 6);
        strips.join(5, 0, 12);
        CHECKS.due("end: free at the top", 3, strips.end(0, 5, 1));
        CHECKS.due("end: an open one at the top", 0, strips.end(0, 4, 1));
        CHECKS.due("end: meets the one below", 1, strips.end(0, 17, 1));
        CHECKS.due("end: meets the one above", 1, strips.end(1, 5, 1));
        CHECKS.due("end: loose, for the one above is open", 2, strips.end(1, 6, 1));
        CHECKS.due("end: the open one beside a loose one", 0, strips.end(0, 18, 1));
        CHECKS.due("end: loose at the last panel's upper edge", 2, strips.end(5, 0, 1));
        CHECKS.due("end: free at the bottom", 3, strips.end(5, 12, 1));
        CHECKS.due("end: an open one at the bottom", 0, strips.end(5, 13, 1));
        strips.join(4, 12, 13);
        CHECKS.due("end: loose, for the one below is open", 2, strips.end(4, 13, 1));
        CHECKS.due("end: meets the last panel", 1, strips.end(4, 12, 1));
    }

    private static void endLinesAndCrossings() {
        FoldedStrips strips = new FoldedStrips();
        Strips.drawText(strips, 3, 0, "a|l;l|a;f^h;g|g;b_c");
        CHECKS.due("end: a line by its lesser end", 0, strips.end(3, 23, 2));
        CHECKS.due("end: the next line", 1, strips.end(3, 5, 2));
        CHECKS.due("end: the line between", 2, strips.end(3, 6, 2));
        CHECKS.due("end: the line of the last upper end", 3, strips.end(3, 12, 2));
        CHECKS.due("end: the line of a lower stroke", 4, strips.end(3, 14, 2));
        CHECKS.due("end: crossings of a long one", 2, strips.end(3, 0, 3));
        CHECKS.due("end: crossings of the other long one", 2, strips.end(3, 11, 3));
        CHECKS.due("end: crossings of an arc", 1, strips.end(3, 7, 3));
        CHECKS.due("end: crossings of what goes through it", 3, strips.end(3, 18, 3));
        CHECKS.due("end: crossings of a low arc", 0, strips.end(3, 13, 3));
        strips.join(4, 14, 13);
        CHECKS.due("end: another panel's strokes do not cross", 0, strips.end(4, 13, 3));
    }

    // Promise 11
    private static void panel() {
        FoldedStrips strips = new FoldedStrips();
        Strips.drawText(strips, 1, 4, "a|c;c|a;d^f;e^g;k_l;l|h");
        Strips.drawText(strips, 0, 4, "a|a;b|b;c_d");
        Strips.drawText(strips, 2, 3, "k^l;h|h");
        CHECKS.due("panel: strokes", 6, strips.panel(1, 0));
        CHECKS.due("panel: hand", 4, strips.panel(1, 1));
        CHECKS.due("panel: upper columns", 0b100001111101, strips.panel(1, 2));
        CHECKS.due("panel: lower columns", 0b110010000101, strips.panel(1, 3));
        CHECKS.due("panel: pairs that cross", 2, strips.panel(1, 4));
        CHECKS.due("panel: loose ends", 6, strips.panel(1, 5));
        CHECKS.due("panel: lines", 5, strips.panel(1, 6));
        CHECKS.due("panel: strokes down", 3, strips.panel(1, 7));
        CHECKS.due("panel: loose ends, not free ones", 1, strips.panel(0, 5));
        CHECKS.due("panel: lines ahead", 3, strips.panel(0, 6));
        CHECKS.due("panel: an empty one", 0, strips.panel(4, 0) + strips.panel(4, 2) + strips.panel(4, 3)
            + strips.panel(4, 4) + strips.panel(4, 5) + strips.panel(4, 6) + strips.panel(4, 7));
        CHECKS.due("panel: the hand of an empty one", 5, strips.panel(5, 1));
        Strips.drawText(strips, 5, 0, "a|l;b|k;c|j;d|i;e|h;f|g;g|f;h|e;i|d;j|c;k|b;l|a");
        CHECKS.due("panel: all cross", 66, strips.panel(5, 4));
        CHECKS.due("panel: all are loose above, none below", 12, strips.panel(5, 5));
        CHECKS.due("panel: all columns above", 4095, strips.panel(5, 2));
        CHECKS.due("panel: all columns below", 4095, strips.panel(5, 3));
        CHECKS.due("panel: all are down", 12, strips.panel(5, 7));
    }

    private static void panelByItself() {
        FoldedStrips strips = new FoldedStrips();
        strips.join(2, 12, 14);
        CHECKS.due("panel: an arc at the first lower end is not down", 0, strips.panel(2, 7));
        CHECKS.due("panel: its loose ends", 2, strips.panel(2, 5));
        strips.join(1, 3, 5);
        strips.join(1, 4, 6);
        strips.join(3, 1, 3);
        CHECKS.due("panel: no loose end of the next one", 2, strips.panel(2, 5));
        Strips.drawText(strips, 3, 3, "a^c;b^d");
        CHECKS.due("panel: no pair of the next one", 0, strips.panel(2, 4));
        CHECKS.due("panel: the pair of the next one", 1, strips.panel(3, 4));
        CHECKS.due("panel: the pair of the one ahead", 1, strips.panel(1, 4));
        strips.clear(2);
        CHECKS.due("panel: an empty one has no loose ends", 0, strips.panel(2, 5));
        CHECKS.due("panel: an empty one has no pairs", 0, strips.panel(2, 4));
        CHECKS.due("panel: an empty one has none down", 0, strips.panel(2, 7));
        Strips.drawText(strips, 2, 2, "c^e;d^f");
        Strips.drawText(strips, 3, 3, "a|l;b|k;c|j");
        CHECKS.due("panel: one pair alone", 1, strips.panel(2, 4));
        CHECKS.due("panel: three pairs", 3, strips.panel(3, 4));
        CHECKS.due("panel: of both", 1, strips.end(2, 2, 3));
    }

    // Promise 12
    private static void fold() {
        FoldedStrips strips = new FoldedStrips();
        Strips.drawText(strips, 4, 0, "a|a;b_l;c^d");
        Strips.drawText(strips, 5, 0, "b^c;k^l;a|e");
        CHECKS.due("fold: marks", 0b100000000011, strips.fold(4, 0));
        CHECKS.due("fold: meet", 0b100000000011, strips.fold(4, 1));
        CHECKS.due("fold: faults of the kind 0", 0, strips.fold(4, 2));
        CHECKS.due("fold: faults of the kind 1", 0b010000000100, strips.fold(4, 3));
        strips.rub(5, 0);
        CHECKS.due("fold: marks do not go by the panel below", 0b100000000011, strips.fold(4, 0));
        CHECKS.due("fold: fewer meet", 0b100000000010, strips.fold(4, 1));
        CHECKS.due("fold: a mark that was not taken up", 1, strips.fold(4, 2));
        CHECKS.due("fold: the one ahead, marks", 0, strips.fold(3, 0));
        CHECKS.due("fold: the one ahead, meet", 0, strips.fold(3, 1));
        CHECKS.due("fold: the one ahead, kind 0", 0, strips.fold(3, 2));
        CHECKS.due("fold: the one ahead, kind 1", 0b1101, strips.fold(3, 3));
    }

    // Promise 13
    private static void hand() {
        FoldedStrips strips = new FoldedStrips();
        Strips.drawText(strips, 0, 2, "a_b;c_d");
        Strips.drawText(strips, 1, 3, "a^e;f|f;g|g");
        Strips.drawText(strips, 4, 2, "a^b;c_d;e|e");
        CHECKS.due("hand: panels", 0b010101, strips.hand(2, 0));
        CHECKS.due("hand: strokes", 5, strips.hand(2, 1));
        CHECKS.due("hand: faults", 5, strips.hand(2, 2));
        CHECKS.due("hand: faults of the kind 1", 3, strips.hand(2, 3));
        CHECKS.due("hand: panels of another", 0b001010, strips.hand(3, 0));
        CHECKS.due("hand: strokes of another", 3, strips.hand(3, 1));
        CHECKS.due("hand: faults of another", 6, strips.hand(3, 2));
        CHECKS.due("hand: faults of another of the kind 1", 3, strips.hand(3, 3));
        CHECKS.due("hand: one without panels", 0, strips.hand(0, 0) + strips.hand(0, 1) + strips.hand(0, 2));
        CHECKS.due("hand: marks that it left, not its own strokes", 3, strips.hand(5, 2));
        CHECKS.due("hand: none of them of the kind 1", 0, strips.hand(5, 3));
        strips.join(4, 3, 5);
        CHECKS.due("hand: faults of who drew below", 7, strips.hand(2, 2));
        CHECKS.due("hand: they are of the kind 1", 5, strips.hand(2, 3));
        CHECKS.due("hand: not of who drew above", 6, strips.hand(3, 2));
        CHECKS.due("hand: nor of the kind 1", 3, strips.hand(3, 3));
    }

    private static void line(FoldedStrips strips, int line, int... want) {
        for (int what = 0; what < want.length; what++) {
            CHECKS.due("line " + line + ", " + what, want[what], strips.line(line, what));
        }
    }

    // Promise 14
    private static void lineThatEnds() {
        FoldedStrips strips = new FoldedStrips();
        strips.join(3, 20, 5);
        line(strips, 0, 1, 0, 0b001000, 0b001000, 77, 92);
        Strips.drawText(strips, 2, 5, "l|f");
        line(strips, 0, 2, 0, 0b001100, 0b101000, 59, 92);
        strips.join(1, 23, 12);
        line(strips, 0, 3, 0, 0b001110, 0b101010, 36, 92);
        strips.exchange(0, 1);
        line(strips, 0, 1, 0, 0b000001, 0b000010, 12, 23);
        line(strips, 1, 2, 0, 0b001100, 0b101000, 59, 92);
    }

    private static void lineThatWinds() {
        FoldedStrips strips = new FoldedStrips();
        // Down and up again at each fold: it begins and ends at the upper edge of the panel 0.
        Strips.drawText(strips, 0, 0, "a|a;b_c;d|d");
        Strips.drawText(strips, 1, 0, "a^b;c^d");
        line(strips, 0, 5, 0, 0b000011, 0b000001, 0, 3);
        CHECKS.due("line: one alone", 1, strips.count(1));
        Strips.drawText(strips, 4, 1, "a_b;c|d");
        Strips.drawText(strips, 5, 2, "b|l;a|k;d|j");
        line(strips, 1, 2, 0, 0b110000, 0b000110, 98, 141);
        line(strips, 2, 3, 0, 0b110000, 0b000110, 142, 143);
        CHECKS.due("line: numbered by the first stroke", 1, strips.end(5, 21, 2));
        CHECKS.due("line: not by the own stroke", 2, strips.end(5, 0, 2));
    }

    private static void lineLoops() {
        FoldedStrips strips = new FoldedStrips();
        strips.join(1, 12, 23);
        strips.join(2, 0, 11);
        line(strips, 0, 2, 1, 0b000110, 0b000110, -6, -6);
        strips.rub(2, 0);
        Strips.drawText(strips, 2, 5, "a|b;l|c");
        line(strips, 0, 3, 0, 0b000110, 0b100010, 61, 62);
        Strips.drawText(strips, 3, 1, "b^c");
        line(strips, 0, 4, 1, 0b001110, 0b100010, -6, -6);
        CHECKS.due("line: a loop at another place", 1, Strips.drawText(strips, 0, 0, "a_b"));
        CHECKS.due("line: not a loop, for the ends are loose", 0, strips.line(0, 1));
        line(strips, 1, 4, 1, 0b001110, 0b100010, -6, -6);
    }

    private static void linesInTheirOrder() {
        FoldedStrips strips = new FoldedStrips();
        Strips.drawText(strips, 2, 0, "l|a;b_c");
        Strips.drawText(strips, 0, 0, "c_d;b|l;a^e");
        strips.join(1, 11, 23);
        line(strips, 0, 1, 0, 1, 1, 0, 4);
        line(strips, 1, 3, 0, 0b000111, 0b000011, 1, 60);
        line(strips, 2, 1, 0, 1, 1, 14, 15);
        line(strips, 3, 1, 0, 0b000100, 1, 61, 62);
        CHECKS.due("line: four", 4, strips.count(1));
    }

    // Promise 15
    private static void count() {
        FoldedStrips strips = new FoldedStrips();
        Strips.drawText(strips, 0, 0, "a|a;b|c;c|b;g_h");
        Strips.drawText(strips, 1, 0, "a|a;d^e;g^h");
        Strips.drawText(strips, 5, 0, "a|a;c_d;e^f");
        Strips.putText(strips, "a|b;c");
        int[] want = {10, 8, 1, 8, 6, 8, 1, 2, 0, 5, 3};
        for (int what = 0; what < want.length; what++) {
            CHECKS.due("count " + what, want[what], strips.count(what));
        }
    }

    private static void countCrossings() {
        FoldedStrips strips = new FoldedStrips();
        strips.join(0, 0, 13);
        strips.join(0, 1, 12);
        CHECKS.due("count: strokes down that cross", 1, strips.count(6));
        strips.join(0, 2, 14);
        CHECKS.due("count: one beside them", 1, strips.count(6));
        strips.join(3, 12, 14);
        strips.join(3, 13, 15);
        CHECKS.due("count: arcs below that cross", 2, strips.count(6));
        strips.join(4, 0, 3);
        strips.join(4, 1, 2);
        CHECKS.due("count: an arc within an arc", 2, strips.count(6));
        strips.join(5, 0, 3);
        strips.join(5, 12, 15);
        CHECKS.due("count: arcs at both edges", 2, strips.count(6));
        strips.join(5, 1, 13);
        CHECKS.due("count: one through both", 4, strips.count(6));
        strips.join(5, 11, 23);
        CHECKS.due("count: one that goes by", 4, strips.count(6));
    }

    private static void countLongest() {
        FoldedStrips strips = new FoldedStrips();
        strips.join(0, 5, 6);
        CHECKS.due("count: one stroke", 1, strips.count(7));
        strips.join(2, 12, 13);
        strips.join(3, 0, 12);
        strips.join(3, 1, 13);
        CHECKS.due("count: three strokes", 3, strips.count(7));
        strips.join(4, 0, 1);
        CHECKS.due("count: a loop counts too", 4, strips.count(7));
        CHECKS.due("count: loops", 1, strips.count(2));
        CHECKS.due("count: lines", 2, strips.count(1));
        FoldedStrips winding = new FoldedStrips();
        Strips.drawText(winding, 0, 0, "a_b;c_d;e_f;g_h;i_j;k_l");
        for (int panel = 1; panel <= 4; panel++) {
            Strips.drawText(winding, panel, 0, "a|a;b|b;c|c;d|d;e|e;f|f;g|g;h|h;i|i;j|j;k|k;l|l");
        }
        Strips.drawText(winding, 5, 1, "b^c;d^e;f^g;h^i;j^k");
        CHECKS.due("count: a line through all but two ends", 59, winding.count(7));
        CHECKS.due("count: it is alone", 1, winding.count(1));
        line(winding, 0, 59, 0, 0b111111, 0b000011, 108, 119);
        winding.join(5, 0, 11);
        CHECKS.due("count: a loop through all ends", 60, winding.count(7));
        line(winding, 0, 60, 1, 0b111111, 0b000011, -6, -6);
    }

    private static void countFreeEnds() {
        FoldedStrips strips = new FoldedStrips();
        strips.join(0, 0, 1);
        CHECKS.due("count: free ends at the top", 2, strips.count(4));
        strips.join(0, 12, 13);
        CHECKS.due("count: not at the first fold", 2, strips.count(4));
        strips.join(5, 2, 3);
        strips.join(5, 4, 5);
        CHECKS.due("count: not at the last fold", 2, strips.count(4));
        strips.join(5, 6, 18);
        CHECKS.due("count: free ends at the bottom", 3, strips.count(4));
        CHECKS.due("count: loose ends beside them", 7, strips.count(3));
    }

    private static void countManyLines() {
        FoldedStrips strips = new FoldedStrips();
        for (int panel = 0; panel < 6; panel++) {
            Strips.drawText(strips, panel, panel, "a^b;c^d;e^f;g^h;i^j;k^l;a_b;c_d;e_f;g_h;i_j;k_l".substring(0,
                panel % 2 == 0 || panel == 5 ? 47 : 23));
        }
        CHECKS.due("count: strokes", 60, strips.count(0));
        CHECKS.due("count: as many lines as can be", 42, strips.count(1));
        CHECKS.due("count: loops", 18, strips.count(2));
        line(strips, 41, 1, 0, 0b100000, 0b100000, 142, 143);
        CHECKS.due("line: not as many", -1, strips.line(42, 0));
    }

    private static void countFromTopToBottom() {
        FoldedStrips strips = new FoldedStrips();
        for (int panel = 0; panel < 6; panel++) {
            for (int column = 0; column < 12; column++) {
                strips.join(panel, column, 23 - column);
            }
        }
        CHECKS.due("count: all strokes", 72, strips.count(0));
        CHECKS.due("count: all lines", 12, strips.count(1));
        CHECKS.due("count: all from top to bottom", 12, strips.count(8));
        CHECKS.due("count: all are long", 6, strips.count(7));
        CHECKS.due("count: all ends outside are free", 24, strips.count(4));
        CHECKS.due("count: none is loose", 0, strips.count(3));
        CHECKS.due("count: all pairs cross", 396, strips.count(6));
        strips.rub(5, 0);
        CHECKS.due("count: one ends ahead", 11, strips.count(8));
        strips.rub(0, 3);
        CHECKS.due("count: one begins later", 10, strips.count(8));
        strips.rub(0, 4);
        strips.rub(0, 5);
        strips.join(0, 4, 5);
        CHECKS.due("count: up at the top", 8, strips.count(8));
        strips.rub(5, 10);
        strips.rub(5, 11);
        strips.join(5, 12, 13);
        CHECKS.due("count: down at the bottom", 6, strips.count(8));
        strips.clear(3);
        CHECKS.due("count: none through an empty panel", 0, strips.count(8));
    }

    private static void countLinesThatJustPassBy() {
        FoldedStrips strips = new FoldedStrips();
        for (int panel = 0; panel < 5; panel++) {
            strips.join(panel, 3, 15);
        }
        strips.join(5, 3, 11);
        CHECKS.due("count: from the top to the last panel's upper edge", 0, strips.count(8));
        strips.clear(5);
        strips.join(5, 3, 12);
        CHECKS.due("count: to the first lower end", 1, strips.count(8));
        strips.clear(0);
        strips.join(0, 12, 15);
        CHECKS.due("count: from the first panel's lower edge", 0, strips.count(8));
        strips.clear(0);
        strips.join(0, 11, 15);
        CHECKS.due("count: from the last upper end", 1, strips.count(8));
    }

    private static void countAfterLinesAreGone() {
        FoldedStrips strips = new FoldedStrips();
        strips.join(0, 12, 13);
        strips.join(1, 0, 1);
        CHECKS.due("count: a loop", 1, strips.count(2));
        strips.clear(0);
        strips.clear(1);
        CHECKS.due("count: no loop any more", 0, strips.count(2));
        CHECKS.due("count: no longest line any more", 0, strips.count(7));
        CHECKS.due("panel: no line any more", 0, strips.panel(1, 6));
        for (int panel = 0; panel < 6; panel++) {
            strips.join(panel, 0, 12);
        }
        CHECKS.due("count: one from top to bottom", 1, strips.count(8));
        for (int panel = 0; panel < 6; panel++) {
            strips.clear(panel);
        }
        CHECKS.due("count: none from top to bottom any more", 0, strips.count(8));
        CHECKS.due("panel: none of its lines any more", 0, strips.panel(3, 6));
        CHECKS.due("line: none any more", -1, strips.line(0, 0));
    }
}
