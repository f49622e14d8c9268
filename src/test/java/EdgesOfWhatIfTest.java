import java.util.function.Consumer;

/** Promises 16 to 18 at their edges: bestSlide, bestExchange, ifTurned. */
public final class EdgesOfWhatIfTest {
    private static final Checks CHECKS = new Checks("EdgesOfWhatIfTest");
    private static final int NO_SUCH = -1, BAD_VALUE = -2;
    private static final int STAYS = 20;
    private static final String[] TO_TURN = {"a|a;b_l;j_k", "a^k;b^j;l|c;d_e", "i|a;a^d;k_l", "c|a", "a_l", "k^l;a_b"};

    public static void main(String[] args) {
        sentencesOfBestSlide();
        sentencesOfBestExchange();
        sentencesOfIfTurned();
        CHECKS.sentence("what if; nothing changes", EdgesOfWhatIfTest::nothingChanges);
        CHECKS.close();
    }

    // ---- promise 16

    private static void sentencesOfBestSlide() {
        CHECKS.sentence("bestSlide: Finds the slide of a panel with which the strip has the fewest loose ends",
            EdgesOfWhatIfTest::fewestBySlide);
        CHECKS.sentence("bestSlide: 0 20 and the columns, together", EdgesOfWhatIfTest::eachNumberOfColumns);
        CHECKS.sentence("bestSlide: 20 means that it stays", EdgesOfWhatIfTest::itStays);
        CHECKS.sentence("bestSlide: of several the one with the fewest columns", EdgesOfWhatIfTest::fewestColumns);
        CHECKS.sentence("bestSlide: of these the one to the left", EdgesOfWhatIfTest::theOneToTheLeft);
        CHECKS.sentence("bestSlide: no end goes beyond the edge", EdgesOfWhatIfTest::notBeyondTheEdge);
        CHECKS.sentence("bestSlide: 1 the loose ends then", EdgesOfWhatIfTest::looseEndsThen);
        CHECKS.sentence("bestSlide: an empty panel and a full one", EdgesOfWhatIfTest::emptyAndFull);
        CHECKS.sentence("bestSlide: NO_SUCH if there is no such panel", EdgesOfWhatIfTest::bestSlideNoSuch);
        CHECKS.sentence("bestSlide: BAD_VALUE if what is neither 0 nor 1", EdgesOfWhatIfTest::bestSlideBadValue);
    }

    private static void slides(String how, FoldedStrips strips, int panel, int columns, int loose) {
        CHECKS.due(how, STAYS + columns, strips.bestSlide(panel, 0));
        CHECKS.due(how + ", loose ends", loose, strips.bestSlide(panel, 1));
        if (columns != 0) {
            CHECKS.due(how + ", when it is slid", loose, strips.slide(panel, columns));
        } else {
            CHECKS.due(how + ", as it is", loose, strips.count(3));
        }
    }

    private static void fewestBySlide() {
        slides("at the fold ahead", Strips.drawn("d_e", "a^b"), 1, 3, 0);
        slides("at the fold behind", Strips.drawn("d_e", "a^b"), 0, -3, 0);
        slides("at both folds", Strips.drawn("c_d", "a|a;b|b", "c^d"), 1, 2, 0);
        slides("more at the one than at the other", Strips.drawn("b_c", "a|a;e|d;f|e", "a^d;c^e"), 1, 0, 6);
        slides("some, though not all", Strips.drawn("d_e;h_i", "a^b"), 1, 3, 2);
    }

    private static void eachNumberOfColumns() {
        for (int columns = -11; columns <= 11; columns++) {
            FoldedStrips strips = new FoldedStrips();
            int from = columns < 0 ? 11 : 0;
            strips.join(2, from + columns, 12 + from + columns);
            strips.join(3, from, 12 + from);
            strips.join(4, from + columns, 12 + from + columns);
            slides("by " + columns, strips, 3, columns, 2);
        }
    }

    private static void itStays() {
        slides("it is best", Strips.drawn("a_b", "a^b"), 1, 0, 0);
        slides("nothing is better", Strips.drawn("", "d|d"), 1, 0, 2);
        slides("though others are as good", Strips.drawn("a_b;e_f", "a^b"), 1, 0, 2);
        slides("though one to the left is as good", Strips.drawn("a_b;e_f", "e^f"), 1, 0, 2);
        slides("the panel 0, which has just free ends", Strips.drawn("a^b"), 0, 0, 0);
        slides("the panel 5, which has just free ends", Strips.drawn("", "", "", "", "", "k_l"), 5, 0, 0);
    }

    private static void fewestColumns() {
        slides("two to the right before three to the left", Strips.drawn("a_f", "d|d"), 1, 2, 2);
        slides("two to the left before three to the right", Strips.drawn("b_g", "d|d"), 1, -2, 2);
        slides("five to the right before six to the left", Strips.drawn("a_l", "g|g"), 1, 5, 2);
        slides("one to the right before eleven to the left", Strips.drawn("", "", "", "", "a_l", "k|k"), 5, 1, 1);
        slides("fewer loose ends go first", Strips.drawn("d_e;j_k", "b^c;e^f"), 1, -1, 4);
        slides("fewer loose ends go first, though they are far", Strips.drawn("b|b;k_l", "b^c"), 1, 9, 1);
    }

    private static void theOneToTheLeft() {
        slides("by one", Strips.drawn("c_e", "d|d"), 1, -1, 2);
        slides("by five", Strips.drawn("a_k", "f|f"), 1, -5, 2);
        slides("by two, of an arc", Strips.drawn("b_c;f_g", "d^e"), 1, -2, 2);
        slides("one to the right, if it is better", Strips.drawn("c_e", "d|d", "e|d"), 1, 1, 2);
    }

    private static void notBeyondTheEdge() {
        slides("an upper end at the left edge", Strips.drawn("a_b", "a^d;c^e"), 1, 0, 4);
        slides("a lower end at the left edge", Strips.drawn("a_b", "d|a;c^e"), 1, 0, 6);
        slides("an upper end at the right edge", Strips.drawn("k_l", "i^l"), 1, 0, 2);
        slides("a lower end at the right edge", Strips.drawn("k_l", "g^h;j_l"), 1, 0, 6);
        slides("just to the left edge", Strips.drawn("a|a", "l|l"), 1, -11, 1);
        slides("just to the right edge", Strips.drawn("l|l", "a|a"), 1, 11, 1);
        slides("one column before it", Strips.drawn("a_b", "j|i"), 1, -8, 2);
    }

    private static void looseEndsThen() {
        FoldedStrips strips = Strips.drawn("d_e", "a^b", "", "k^l");
        CHECKS.due("as it is", 6, strips.count(3));
        CHECKS.due("then, with those of other panels", 2, strips.bestSlide(1, 1));
        CHECKS.due("then, of a panel that does not help", 6, strips.bestSlide(4, 1));
        CHECKS.due("still as it is", 6, strips.count(3));
        CHECKS.due("the most that can be", 60,
            Strips.drawn(Strips.STRAIGHT, "", Strips.STRAIGHT, "", Strips.STRAIGHT).bestSlide(2, 1));
    }

    private static void emptyAndFull() {
        FoldedStrips strips = Strips.drawn("d_e", "", Strips.STRAIGHT);
        slides("an empty panel", strips, 1, 0, 26);
        slides("a full panel", strips, 2, 0, 26);
        slides("an empty strip", new FoldedStrips(), 5, 0, 0);
        slides("a full strip", Strips.drawnAll(Strips.CROSSED), 0, 0, 0);
    }

    private static void bestSlideNoSuch() {
        FoldedStrips strips = Strips.drawnAll("b|b");
        for (int what = 0; what <= 1; what++) {
            CHECKS.due("panel -1, " + what, NO_SUCH, strips.bestSlide(-1, what));
            CHECKS.due("panel 6, " + what, NO_SUCH, strips.bestSlide(6, what));
        }
        CHECKS.due("panel 0", STAYS, strips.bestSlide(0, 0));
        CHECKS.due("panel 5", STAYS, strips.bestSlide(5, 0));
    }

    private static void bestSlideBadValue() {
        FoldedStrips strips = Strips.drawn("b_c", "a^b");
        CHECKS.due("what -1", BAD_VALUE, strips.bestSlide(1, -1));
        CHECKS.due("what 2", BAD_VALUE, strips.bestSlide(1, 2));
        CHECKS.due("what 0", STAYS + 1, strips.bestSlide(1, 0));
        CHECKS.due("what 1", 0, strips.bestSlide(1, 1));
    }

    // ---- promise 17

    private static void sentencesOfBestExchange() {
        CHECKS.sentence("bestExchange: Finds the exchange of two panels with which the strip has the fewest loose ends",
            EdgesOfWhatIfTest::fewestByExchange);
        CHECKS.sentence("bestExchange: 0 10 times the lower number and the greater one, together",
            EdgesOfWhatIfTest::eachPair);
        CHECKS.sentence("bestExchange: of several the one with the lowest lower number",
            EdgesOfWhatIfTest::lowestLowerNumber);
        CHECKS.sentence("bestExchange: of these the lowest greater one", EdgesOfWhatIfTest::lowestGreaterNumber);
        CHECKS.sentence("bestExchange: one has to be exchanged, even if none is better as it is",
            EdgesOfWhatIfTest::oneHasToBe);
        CHECKS.sentence("bestExchange: an empty strip and a full one", EdgesOfWhatIfTest::emptyAndFullStrips);
        CHECKS.sentence("bestExchange: BAD_VALUE if what is neither 0 nor 1", EdgesOfWhatIfTest::bestExchangeBadValue);
    }

    private static void exchanges(String how, FoldedStrips strips, int both, int loose) {
        CHECKS.due(how, both, strips.bestExchange(0));
        CHECKS.due(how + ", loose ends", loose, strips.bestExchange(1));
        CHECKS.due(how + ", when they are exchanged", loose, strips.exchange(both / 10, both % 10));
    }

    private static void fewestByExchange() {
        exchanges("two that go on, to the top", Strips.drawn("a|a", "", "a|a"), 12, 1);
        exchanges("more at once", Strips.drawn("a_b", "c^d;e^f", "", "", "a^b;c_d;e_f"), 4, 2);
    }

    /** A strip that is whole but for two panels, which stand in each other's place. */
    private static void eachPair() {
        String letters = "abcdefg";
        for (int lower = 0; lower < 6; lower++) {
            for (int greater = lower + 1; greater < 6; greater++) {
                FoldedStrips strips = new FoldedStrips();
                for (int panel = 0; panel < 6; panel++) {
                    int as = panel == lower ? greater : panel == greater ? lower : panel;
                    Strips.drawText(strips, panel, 0, letters.charAt(as) + "|" + letters.charAt(as + 1));
                }
                exchanges("of " + lower + " and " + greater, strips, 10 * lower + greater, 0);
            }
        }
    }

    private static void lowestLowerNumber() {
        exchanges("an arc from the bottom to the top", Strips.drawn("", "", "", "", "", "a^b"), 5, 0);
        exchanges("an arc from the middle to the top", Strips.drawn("", "", "c^d"), 2, 0);
        exchanges("0 and 1 before 1 and 2", Strips.drawn("a_b", "", "a^b"), 1, 0);
        exchanges("0 and 4 before 4 and 5", Strips.drawn("a|a", "a|a", "a|a", "a|a", "", "a|a"), 4, 1);
        exchanges("2 and 3 before 3 and 4", Strips.drawn("", "", "a_b", "", "a^b"), 23, 0);
    }

    private static void lowestGreaterNumber() {
        exchanges("0 and 1 of all", new FoldedStrips(), 1, 0);
        exchanges("2 and 3 before 2 and 5", Strips.drawn("a_b", "a^b;a_b", "", "a^b", "", "a^b"), 23, 2);
        exchanges("0 and 2 before 0 and 3", Strips.drawn("", "", "a^b", "a^b"), 2, 2);
    }

    private static void oneHasToBe() {
        FoldedStrips strips = Strips.drawn("a|b", "b|c", "c|d", "d|e", "e|f", "f|g");
        CHECKS.due("none is loose as it is", 0, strips.count(3));
        exchanges("but one has to be", strips, 1, 4);
        FoldedStrips low = Strips.drawn("", "", "", "", "a_b", "a^b");
        exchanges("but panels without strokes can be", low, 1, 0);
        FoldedStrips five = Strips.drawn("a|b", "b|c", "c|d", "d|e", "e|f", "");
        exchanges("but the last one can be", five, 45, 2);
    }

    private static void emptyAndFullStrips() {
        exchanges("an empty strip", new FoldedStrips(), 1, 0);
        exchanges("a full strip", Strips.drawnAll(Strips.CROSSED), 1, 0);
        exchanges("every other one is full", Strips.drawn(Strips.STRAIGHT, "", Strips.STRAIGHT, "", Strips.STRAIGHT),
            14, 12);
    }

    private static void bestExchangeBadValue() {
        FoldedStrips strips = Strips.drawn("a|a", "", "a|a");
        CHECKS.due("what -1", BAD_VALUE, strips.bestExchange(-1));
        CHECKS.due("what 2", BAD_VALUE, strips.bestExchange(2));
        CHECKS.due("what 0", 12, strips.bestExchange(0));
        CHECKS.due("what 1", 1, strips.bestExchange(1));
    }

    // ---- promise 18

    private static void sentencesOfIfTurned() {
        CHECKS.sentence("ifTurned: Tells what would be if a panel was turned: 0 loose ends, 1 lines, 2 loops",
            EdgesOfWhatIfTest::asWhenItIsTurned);
        CHECKS.sentence("ifTurned: how: 0 to 2", EdgesOfWhatIfTest::eachHow);
        CHECKS.sentence("ifTurned: an empty strip and a full one", EdgesOfWhatIfTest::turnedEmptyAndFull);
        CHECKS.sentence("ifTurned: NO_SUCH if there is no such panel", EdgesOfWhatIfTest::ifTurnedNoSuch);
        CHECKS.sentence("ifTurned: BAD_VALUE if how or what is out of range", EdgesOfWhatIfTest::ifTurnedBadValue);
    }

    private static void asWhenItIsTurned() {
        for (int panel = 0; panel < 6; panel++) {
            for (int how = 0; how < 3; how++) {
                FoldedStrips asked = Strips.drawn(TO_TURN);
                FoldedStrips turned = Strips.drawn(TO_TURN);
                int loose = turned.turn(panel, how);
                String which = panel + " by " + how;
                CHECKS.due("loose ends of " + which, loose, asked.ifTurned(panel, how, 0));
                CHECKS.due("lines of " + which, turned.count(1), asked.ifTurned(panel, how, 1));
                CHECKS.due("loops of " + which, turned.count(2), asked.ifTurned(panel, how, 2));
            }
        }
    }

    private static void turned(String how, FoldedStrips strips, int panel, int way, int loose, int lines, int loops) {
        CHECKS.due(how + ", loose ends", loose, strips.ifTurned(panel, way, 0));
        CHECKS.due(how + ", lines", lines, strips.ifTurned(panel, way, 1));
        CHECKS.due(how + ", loops", loops, strips.ifTurned(panel, way, 2));
    }

    private static void eachHow() {
        FoldedStrips strips = Strips.drawn("a_b", "a^b;k^l;c_d");
        turned("mirrored", strips, 1, 0, 4, 3, 1);
        turned("turned over", strips, 1, 1, 8, 4, 0);
        turned("both", strips, 1, 2, 8, 4, 0);
        CHECKS.due("loops as it is", 1, strips.count(2));
        turned("the first panel mirrored", strips, 0, 0, 4, 3, 1);
        turned("the first panel turned over", strips, 0, 1, 6, 4, 0);
        turned("another panel", strips, 4, 2, 4, 3, 1);
    }

    private static void turnedEmptyAndFull() {
        for (int how = 0; how < 3; how++) {
            turned("an empty strip", new FoldedStrips(), 0, how, 0, 0, 0);
            turned("a full strip", Strips.drawnAll(Strips.CROSSED), 3, how, 0, 12, 0);
            turned("as many lines as can be", Strips.drawnAll(Strips.ARCS), 5, how, 0, 42, 30);
        }
    }

    private static void ifTurnedNoSuch() {
        FoldedStrips strips = Strips.drawnAll("a|b");
        for (int what = 0; what < 3; what++) {
            CHECKS.due("panel -1, " + what, NO_SUCH, strips.ifTurned(-1, what, what));
            CHECKS.due("panel 6, " + what, NO_SUCH, strips.ifTurned(6, what, what));
        }
        CHECKS.due("panel 0", 10, strips.ifTurned(0, 0, 0));
        CHECKS.due("panel 5", 10, strips.ifTurned(5, 0, 0));
    }

    private static void ifTurnedBadValue() {
        FoldedStrips strips = Strips.drawn("a|b");
        for (int fine = 0; fine < 3; fine++) {
            CHECKS.due("how -1", BAD_VALUE, strips.ifTurned(0, -1, fine));
            CHECKS.due("how 3", BAD_VALUE, strips.ifTurned(0, 3, fine));
            CHECKS.due("what -1", BAD_VALUE, strips.ifTurned(0, fine, -1));
            CHECKS.due("what 3", BAD_VALUE, strips.ifTurned(0, fine, 3));
            CHECKS.due("both are in range", 1, strips.ifTurned(0, fine, 1));
            CHECKS.due("both are in range, too", fine == 2 ? 0 : 1, strips.ifTurned(0, 2, fine));
        }
    }

    // ---- nothing changes

    private static void leavesAll(String looks, Consumer<FoldedStrips> asked) {
        CHECKS.holds(looks, Strips.holdsTheSame(() -> Strips.inUse(TO_TURN), asked));
    }

    private static void nothingChanges() {
        leavesAll("bestExchange", strips -> {
            strips.bestExchange(0);
            strips.bestExchange(1);
        });
        for (int panel = 0; panel < 6; panel++) {
            int number = panel;
            leavesAll("bestSlide", strips -> {
                strips.bestSlide(number, 0);
                strips.bestSlide(number, 1);
            });
            leavesAll("ifTurned", strips -> {
                for (int at = 0; at < 9; at++) {
                    strips.ifTurned(number, at / 3, at % 3);
                }
            });
        }
    }
}
