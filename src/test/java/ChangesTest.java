/** Promises 2 to 9 in ordinary use: what changes strokes. */
public final class ChangesTest {
    private static final Checks CHECKS = new Checks("ChangesTest");

    public static void main(String[] args) {
        draw();
        join();
        rub();
        clear();
        slide();
        turn();
        exchange();
        takeUp();
        takeUpAtTheEdges();
        takeUpWithTakenEnds();
        CHECKS.close();
    }

    // Promise 2
    private static void draw() {
        FoldedStrips strips = new FoldedStrips();
        strips.join(2, 5, 6);
        strips.join(3, 0, 12);
        CHECKS.due("draw: put", 11, Strips.putText(strips, "a|l;b^k;c_d"));
        CHECKS.due("draw", 3, strips.draw(2, 5));
        CHECKS.due("draw: the pad is empty", 0, strips.count(9));
        CHECKS.due("draw: upper to lower", 23, strips.end(2, 0, 0));
        CHECKS.due("draw: lower to upper", 0, strips.end(2, 23, 0));
        CHECKS.due("draw: upper to upper", 10, strips.end(2, 1, 0));
        CHECKS.due("draw: upper to upper, back", 1, strips.end(2, 10, 0));
        CHECKS.due("draw: lower to lower", 15, strips.end(2, 14, 0));
        CHECKS.due("draw: lower to lower, back", 14, strips.end(2, 15, 0));
        CHECKS.due("draw: what was there is gone", -6, strips.end(2, 5, 0));
        CHECKS.due("draw: the hand", 5, strips.panel(2, 1));
        CHECKS.due("draw: other panels stay", 12, strips.end(3, 0, 0));
        CHECKS.due("draw: other hands stay", 3, strips.panel(3, 1));
        CHECKS.due("draw: all strokes", 4, strips.count(0));
        CHECKS.due("draw: it is a change", 3, strips.count(10));
        CHECKS.due("draw: undo", 2, strips.undo());
        CHECKS.due("draw: undo brings strokes back", 6, strips.end(2, 5, 0));
        CHECKS.due("draw: undo brings the hand back", 2, strips.panel(2, 1));
        CHECKS.due("draw: undo leaves the pad", 0, strips.count(9));
        CHECKS.due("draw: twelve strokes", 12, Strips.drawText(strips, 0, 0,
            "a|a;b|b;c|c;d|d;e|e;f|f;g|g;h|h;i|i;j|j;k|k;l|l"));
        CHECKS.due("draw: one stroke in place of twelve", 1, Strips.drawText(strips, 0, 1, "k_l"));
        CHECKS.due("draw: all of them are gone", 3, strips.count(0));
    }

    // Promise 3
    private static void join() {
        FoldedStrips strips = new FoldedStrips();
        CHECKS.due("join", 1, strips.join(5, 23, 0));
        CHECKS.due("join: another", 2, strips.join(5, 1, 2));
        CHECKS.due("join: its end", 0, strips.end(5, 23, 0));
        CHECKS.due("join: its other end", 23, strips.end(5, 0, 0));
        CHECKS.due("join: in another panel", 1, strips.join(4, 23, 0));
        CHECKS.due("join: changes", 3, strips.count(10));
    }

    // Promise 4
    private static void rub() {
        FoldedStrips strips = new FoldedStrips();
        strips.join(1, 3, 20);
        strips.join(1, 4, 5);
        CHECKS.due("rub", 3, strips.rub(1, 20));
        CHECKS.due("rub: the end is open", -6, strips.end(1, 20, 0));
        CHECKS.due("rub: the other one too", -6, strips.end(1, 3, 0));
        CHECKS.due("rub: other strokes stay", 5, strips.end(1, 4, 0));
        CHECKS.due("rub: it is a change", 3, strips.count(10));
        CHECKS.due("rub: the other one", 4, strips.rub(1, 5));
        CHECKS.due("rub: the ends can be joined again", 1, strips.join(1, 3, 5));
    }

    // Promise 5
    private static void clear() {
        FoldedStrips strips = new FoldedStrips();
        Strips.drawText(strips, 3, 0, "a|b;c^d;a_c");
        strips.join(2, 0, 1);
        strips.join(4, 22, 23);
        CHECKS.due("clear", 3, strips.clear(3));
        CHECKS.due("clear: no strokes", 0, strips.panel(3, 0));
        CHECKS.due("clear: the hand stays", 0, strips.panel(3, 1));
        CHECKS.due("clear: other panels stay", 2, strips.count(0));
        CHECKS.due("clear: it is a change", 4, strips.count(10));
        CHECKS.due("clear: an empty one", 0, strips.clear(3));
        CHECKS.due("clear: that is a change too", 5, strips.count(10));
    }

    // Promise 6
    private static void slide() {
        FoldedStrips strips = new FoldedStrips();
        strips.join(1, 2, 14);
        strips.join(1, 3, 4);
        strips.join(0, 0, 14);
        CHECKS.due("slide: loose ends at first", 3, strips.count(3));
        CHECKS.due("slide: to the right", 5, strips.slide(1, 1));
        CHECKS.due("slide: a stroke", 15, strips.end(1, 3, 0));
        CHECKS.due("slide: another", 5, strips.end(1, 4, 0));
        CHECKS.due("slide: what was there", -6, strips.end(1, 2, 0));
        CHECKS.due("slide: other panels stay", 14, strips.end(0, 0, 0));
        CHECKS.due("slide: to the left", 3, strips.slide(1, -2));
        CHECKS.due("slide: a stroke to the left", 13, strips.end(1, 1, 0));
        CHECKS.due("slide: another to the left", 2, strips.end(1, 3, 0));
        CHECKS.due("slide: two changes", 5, strips.count(10));
        CHECKS.due("slide: the farthest one", 3, strips.slide(5, 11));
        CHECKS.due("slide: an empty panel is a change", 6, strips.count(10));
        CHECKS.due("slide: its hand stays", 5, strips.panel(5, 1));
    }

    // Promise 7
    private static void turn() {
        FoldedStrips strips = new FoldedStrips();
        strips.join(1, 0, 13);
        strips.join(1, 2, 5);
        strips.join(0, 3, 12);
        CHECKS.due("turn: loose ends at first", 3, strips.count(3));
        CHECKS.due("turn: mirrored", 5, strips.turn(1, 0));
        CHECKS.due("turn: mirrored, down", 22, strips.end(1, 11, 0));
        CHECKS.due("turn: mirrored, sideways", 6, strips.end(1, 9, 0));
        CHECKS.due("turn: mirrored, what was there", -6, strips.end(1, 0, 0));
        strips.undo();
        CHECKS.due("turn: over", 5, strips.turn(1, 1));
        CHECKS.due("turn: over, down", 12, strips.end(1, 1, 0));
        CHECKS.due("turn: over, sideways", 17, strips.end(1, 14, 0));
        strips.undo();
        CHECKS.due("turn: both", 5, strips.turn(1, 2));
        CHECKS.due("turn: both, down", 23, strips.end(1, 10, 0));
        CHECKS.due("turn: both, sideways", 18, strips.end(1, 21, 0));
        CHECKS.due("turn: back", 3, strips.turn(1, 2));
        CHECKS.due("turn: other panels stay", 12, strips.end(0, 3, 0));
        CHECKS.due("turn: the hand stays", 1, strips.panel(1, 1));
        CHECKS.due("turn: it is a change", 5, strips.count(10));
        CHECKS.due("turn: an empty panel", 3, strips.turn(4, 1));
        CHECKS.due("turn: that is a change too", 6, strips.count(10));
    }

    // Promise 8
    private static void exchange() {
        FoldedStrips strips = new FoldedStrips();
        Strips.drawText(strips, 0, 4, "a|b;c_d");
        strips.join(1, 1, 2);
        strips.join(5, 23, 7);
        CHECKS.due("exchange: loose ends at first", 2, strips.count(3));
        CHECKS.due("exchange", 4, strips.exchange(5, 0));
        CHECKS.due("exchange: a stroke that went down", 13, strips.end(5, 0, 0));
        CHECKS.due("exchange: another that went down", 15, strips.end(5, 14, 0));
        CHECKS.due("exchange: the stroke that went up", 7, strips.end(0, 23, 0));
        CHECKS.due("exchange: what was there", -6, strips.end(0, 0, 0));
        CHECKS.due("exchange: the hand that went down", 4, strips.panel(5, 1));
        CHECKS.due("exchange: the hand that went up", 5, strips.panel(0, 1));
        CHECKS.due("exchange: the others stay", 1, strips.panel(1, 1));
        CHECKS.due("exchange: it is a change", 4, strips.count(10));
        CHECKS.due("exchange: empty panels", 4, strips.exchange(2, 3));
        CHECKS.due("exchange: their hands", 3, strips.panel(2, 1));
        CHECKS.due("exchange: that is a change too", 5, strips.count(10));
    }

    // Promise 9
    private static void takeUp() {
        FoldedStrips strips = new FoldedStrips();
        Strips.drawText(strips, 0, 0, "a|l;b_k;c^d");
        CHECKS.due("takeUp", 3, strips.takeUp(1));
        CHECKS.due("takeUp: column 1", 13, strips.end(1, 1, 0));
        CHECKS.due("takeUp: column 10", 22, strips.end(1, 10, 0));
        CHECKS.due("takeUp: column 11", 11, strips.end(1, 23, 0));
        CHECKS.due("takeUp: no other one", 3, strips.panel(1, 0));
        CHECKS.due("takeUp: the hand stays", 1, strips.panel(1, 1));
        CHECKS.due("takeUp: it is a change", 2, strips.count(10));
        CHECKS.due("takeUp: again", 0, strips.takeUp(1));
        CHECKS.due("takeUp: that is a change too", 3, strips.count(10));
        CHECKS.due("takeUp: the panel ahead alone counts", 0, strips.takeUp(3));
        CHECKS.due("takeUp: the last panel", 0, strips.takeUp(5));
        CHECKS.due("takeUp: strokes at the panel's own lower edge are no marks for it", 3, strips.panel(1, 0));
    }

    private static void takeUpAtTheEdges() {
        FoldedStrips strips = new FoldedStrips();
        strips.join(2, 12, 23);
        CHECKS.due("takeUp: the first column and the last one", 2, strips.takeUp(3));
        CHECKS.due("takeUp: the first column", 12, strips.end(3, 0, 0));
        CHECKS.due("takeUp: the last column", 23, strips.end(3, 11, 0));
        CHECKS.due("takeUp: on to the next panel", 2, strips.takeUp(4));
        CHECKS.due("takeUp: not over an empty panel", 0, strips.takeUp(1));
        CHECKS.due("takeUp: all strokes", 5, strips.count(0));
    }

    private static void takeUpWithTakenEnds() {
        FoldedStrips strips = new FoldedStrips();
        Strips.drawText(strips, 4, 0, "a_b;c_d;e_f");
        strips.join(5, 0, 13);
        strips.join(5, 2, 6);
        CHECKS.due("takeUp: taken ends are left out", 3, strips.takeUp(5));
        CHECKS.due("takeUp: the upper end was taken", 13, strips.end(5, 0, 0));
        CHECKS.due("takeUp: the lower end was taken", -6, strips.end(5, 1, 0));
        CHECKS.due("takeUp: the upper end was taken, its lower one stays open", -6, strips.end(5, 14, 0));
        CHECKS.due("takeUp: column 3", 15, strips.end(5, 3, 0));
        CHECKS.due("takeUp: column 4", 16, strips.end(5, 4, 0));
        CHECKS.due("takeUp: column 5", 17, strips.end(5, 5, 0));
        CHECKS.due("takeUp: without a mark above there is none", 5, strips.panel(5, 0));
    }
}
