/** Promises 16 to 18 in ordinary use: what would be. */
public final class WhatIfTest {
    private static final Checks CHECKS = new Checks("WhatIfTest");

    public static void main(String[] args) {
        bestSlide();
        bestSlideOfSeveral();
        bestSlideWithinTheEdges();
        bestExchange();
        bestExchangeOfSeveral();
        ifTurned();
        ifTurnedLoops();
        CHECKS.close();
    }

    private static void slides(String how, FoldedStrips strips, int panel, int columns, int loose) {
        CHECKS.due("bestSlide: " + how, 20 + columns, strips.bestSlide(panel, 0));
        CHECKS.due("bestSlide: loose ends, " + how, loose, strips.bestSlide(panel, 1));
    }

    // Promise 16
    private static void bestSlide() {
        FoldedStrips strips = new FoldedStrips();
        slides("an empty strip", strips, 3, 0, 0);
        Strips.drawText(strips, 0, 0, "c_d;j_l");
        slides("an empty panel", strips, 1, 0, 4);
        Strips.drawText(strips, 1, 0, "a^b;h^j");
        slides("to the right", strips, 1, 2, 0);
        slides("to the left", strips, 0, -2, 0);
        strips.slide(1, 2);
        slides("it stays", strips, 1, 0, 0);
        strips.join(4, 0, 1);
        slides("with loose ends elsewhere", strips, 1, 0, 2);
        strips.join(2, 0, 12);
        slides("it stays though others are as good", strips, 2, 0, 4);
    }

    private static void bestSlideOfSeveral() {
        FoldedStrips strips = new FoldedStrips();
        Strips.drawText(strips, 2, 0, "d_g");
        strips.join(3, 4, 17);
        slides("one column to the left before two to the right", strips, 3, -1, 2);
        strips.rub(2, 15);
        Strips.drawText(strips, 2, 0, "d_f");
        slides("to the left before to the right", strips, 3, -1, 2);
        strips.clear(2);
        Strips.drawText(strips, 2, 0, "a_f");
        slides("to the right, for it is nearer", strips, 3, 1, 2);
        Strips.drawText(strips, 4, 0, "j^l");
        slides("near, not far", strips, 3, 1, 4);
        Strips.drawText(strips, 2, 0, "a_l");
        strips.clear(4);
        Strips.drawText(strips, 3, 0, "g^h");
        slides("to the right edge before to the left one", strips, 3, 4, 2);
    }

    private static void bestSlideWithinTheEdges() {
        FoldedStrips strips = new FoldedStrips();
        Strips.drawText(strips, 1, 0, "a|l");
        Strips.drawText(strips, 0, 0, "b_c");
        slides("both edges are in the way", strips, 1, 0, 4);
        Strips.drawText(strips, 1, 0, "a|a");
        strips.clear(0);
        strips.join(0, 0, 23);
        slides("by eleven to the right", strips, 1, 11, 1);
        strips.slide(1, 11);
        strips.clear(0);
        strips.join(0, 0, 12);
        slides("by eleven to the left", strips, 1, -11, 1);
        strips.clear(1);
        Strips.drawText(strips, 1, 0, "k|l");
        slides("by ten, which a lower end allows", strips, 1, -10, 1);
        Strips.drawText(strips, 1, 0, "l|k");
        slides("a lower end is in the way", strips, 1, 0, 3);
    }

    private static void exchanges(String how, FoldedStrips strips, int both, int loose) {
        CHECKS.due("bestExchange: " + how, both, strips.bestExchange(0));
        CHECKS.due("bestExchange: loose ends, " + how, loose, strips.bestExchange(1));
    }

    // Promise 17
    private static void bestExchange() {
        FoldedStrips strips = new FoldedStrips();
        exchanges("an empty strip", strips, 1, 0);
        Strips.drawText(strips, 0, 0, "a|b");
        Strips.drawText(strips, 1, 0, "f|a");
        Strips.drawText(strips, 2, 0, "c|d");
        Strips.drawText(strips, 3, 0, "d|e");
        Strips.drawText(strips, 4, 0, "e|f");
        Strips.drawText(strips, 5, 0, "b|c");
        CHECKS.due("bestExchange: as it is", 6, strips.count(3));
        exchanges("two in each other's place", strips, 15, 0);
        strips.exchange(1, 5);
        exchanges("one has to be, even if it is best to stay", strips, 1, 4);
    }

    private static void bestExchangeOfSeveral() {
        FoldedStrips strips = new FoldedStrips();
        strips.join(2, 0, 12);
        exchanges("to the top before to the bottom", strips, 2, 1);
        strips.exchange(2, 5);
        exchanges("it stays at the bottom", strips, 1, 1);
        strips.exchange(0, 5);
        exchanges("to the bottom, though it could stay at the top", strips, 5, 1);
        strips.clear(0);
        strips.join(3, 0, 1);
        strips.join(4, 12, 13);
        CHECKS.due("bestExchange: as it is", 4, strips.count(3));
        exchanges("arcs that meet, by the lowest lower number", strips, 24, 0);
        strips.clear(3);
        strips.clear(4);
        strips.join(2, 0, 1);
        strips.join(5, 12, 13);
        exchanges("an upper arc to the top", strips, 2, 0);
        strips.clear(2);
        strips.clear(5);
        strips.join(3, 12, 13);
        exchanges("the lowest greater number", strips, 35, 0);
    }

    private static void turned(String how, FoldedStrips strips, int panel, int... want) {
        for (int at = 0; at < 9; at++) {
            CHECKS.due("ifTurned: " + how + ", " + at / 3 + ", " + at % 3, want[at],
                strips.ifTurned(panel, at / 3, at % 3));
        }
    }

    // Promise 18
    private static void ifTurned() {
        FoldedStrips strips = new FoldedStrips();
        Strips.drawText(strips, 0, 0, "a|a;b|l");
        Strips.drawText(strips, 1, 0, "l|a;b^c");
        Strips.drawText(strips, 2, 0, "a|a");
        turned("the panel between", strips, 1, 6, 4, 0, 6, 4, 0, 4, 3, 0);
        turned("the first one", strips, 0, 4, 3, 0, 4, 3, 0, 4, 3, 0);
        turned("an empty one", strips, 4, 4, 3, 0, 4, 3, 0, 4, 3, 0);
        turned("the last one", new FoldedStrips(), 5, 0, 0, 0, 0, 0, 0, 0, 0, 0);
    }

    private static void ifTurnedLoops() {
        FoldedStrips strips = new FoldedStrips();
        strips.join(2, 12, 14);
        strips.join(3, 21, 23);
        strips.join(3, 12, 13);
        turned("no loop but by both", strips, 3, 6, 3, 0, 4, 2, 0, 2, 2, 1);
        CHECKS.due("ifTurned: no loop as it is", 0, strips.count(2));
        strips.turn(3, 2);
        CHECKS.due("ifTurned: a loop after it", 1, strips.count(2));
    }
}
