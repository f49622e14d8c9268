import java.util.ArrayList;
import java.util.List;

/** Promises 22 to 24: undo, save, restore. */
public final class UndoSaveTest {
    private static final Checks CHECKS = new Checks("UndoSaveTest");

    public static void main(String[] args) {
        undoEachChange();
        undoSixStates();
        undoKeepsWhatItKeeps();
        errorsAreNoChanges();
        looksAreNoChanges();
        save();
        saveKeepsTheHistory();
        restore();
        restoreIsAChange();
        slotsRefuse();
        CHECKS.close();
    }

    private static FoldedStrips drawn() {
        FoldedStrips strips = new FoldedStrips();
        Strips.drawText(strips, 0, 3, "a|a;b|c;d_e");
        Strips.drawText(strips, 1, 2, "b|b;d^e");
        return strips;
    }

    private static int change(FoldedStrips strips, int which) {
        return switch (which) {
            case 0 -> Strips.drawText(strips, 1, 5, "f|f");
            case 1 -> strips.join(1, 7, 8);
            case 2 -> strips.rub(0, 0);
            case 3 -> strips.clear(0);
            case 4 -> strips.slide(1, 1);
            case 5 -> strips.turn(0, 2);
            case 6 -> strips.exchange(0, 1);
            case 7 -> strips.takeUp(1);
            default -> strips.restore(0);
        };
    }

    // Promise 22
    private static void undoEachChange() {
        for (int which = 0; which <= 8; which++) {
            FoldedStrips strips = drawn();
            strips.clear(0);
            strips.save(0);
            strips.undo();
            List<Integer> before = Strips.figure(strips);
            CHECKS.due("undo: before the change " + which, 2, strips.count(10));
            CHECKS.holds("undo: a change " + which, change(strips, which) >= 0);
            CHECKS.due("undo: changes with " + which, 3, strips.count(10));
            CHECKS.holds("undo: it changes something " + which, !Strips.figure(strips).equals(before));
            CHECKS.due("undo: " + which, 2, strips.undo());
            CHECKS.holds("undo: all is as before " + which, Strips.figure(strips).equals(before));
            CHECKS.due("undo: the one before " + which, 1, strips.undo());
            CHECKS.due("undo: the strokes then " + which, 3, strips.count(0));
        }
    }

    private static void undoSixStates() {
        FoldedStrips strips = new FoldedStrips();
        CHECKS.due("undo: nothing yet", -5, strips.undo());
        List<List<Integer>> figures = new ArrayList<>();
        for (int many = 0; many < 9; many++) {
            figures.add(Strips.figure(strips));
            strips.join(many % 6, many, 12 + many);
            CHECKS.due("undo: changes", Math.min(many + 1, 6), strips.count(10));
        }
        for (int left = 5; left >= 0; left--) {
            CHECKS.due("undo: left", left, strips.undo());
            CHECKS.due("undo: count", left, strips.count(10));
            CHECKS.holds("undo: the figure with " + left, Strips.figure(strips).equals(figures.get(3 + left)));
        }
        CHECKS.due("undo: the oldest ones are gone", -5, strips.undo());
        CHECKS.due("undo: strokes that stay", 3, strips.count(0));
        strips.join(5, 22, 23);
        strips.join(5, 20, 21);
        CHECKS.due("undo: behind new changes", 1, strips.undo());
        CHECKS.due("undo: one of them is left", 23, strips.end(5, 22, 0));
        CHECKS.due("undo: the other one is gone", -6, strips.end(5, 20, 0));
        strips.clear(0);
        CHECKS.due("undo: to go another way", 2, strips.count(10));
    }

    private static void undoKeepsWhatItKeeps() {
        FoldedStrips strips = new FoldedStrips();
        strips.put(Strips.packed("a|a"));
        strips.join(3, 0, 1);
        strips.put(Strips.packed(";b|b"));
        strips.save(1);
        CHECKS.due("undo: keeps", 0, strips.undo());
        CHECKS.due("undo: the pad stays", 7, strips.count(9));
        CHECKS.due("undo: the slot stays", 1, strips.restore(1));
        CHECKS.due("undo: of a restore", 0, strips.undo());
        CHECKS.due("undo: a slot that was not saved", -5, strips.restore(0));
        CHECKS.due("undo: draw", 2, strips.draw(0, 0));
        CHECKS.due("undo: of a draw", 0, strips.undo());
        CHECKS.due("undo: of a draw does not bring the pad back", 0, strips.count(9));
        strips.put(Strips.packed("c|c"));
        strips.takeUp(1);
        strips.undo();
        CHECKS.due("undo: the pad's text stays", 1, strips.draw(0, 0));
        CHECKS.due("undo: its stroke", 14, strips.end(0, 2, 0));
    }

    private static void errorsAreNoChanges() {
        FoldedStrips strips = drawn();
        strips.draw(0, 0);
        strips.draw(6, 0);
        strips.draw(0, 6);
        strips.join(0, 0, 1);
        strips.join(0, 5, 5);
        strips.join(0, 5, 24);
        strips.rub(0, 11);
        strips.rub(0, -1);
        strips.clear(6);
        strips.slide(0, 0);
        strips.slide(0, 11);
        strips.turn(0, 3);
        strips.exchange(2, 2);
        strips.exchange(2, 6);
        strips.takeUp(0);
        strips.restore(0);
        strips.restore(2);
        CHECKS.due("undo: errors are not recorded", 2, strips.count(10));
        CHECKS.due("undo: behind errors", 1, strips.undo());
        CHECKS.due("undo: the strokes then", 3, strips.count(0));
    }

    private static void looksAreNoChanges() {
        FoldedStrips strips = drawn();
        strips.end(0, 0, 2);
        strips.panel(0, 6);
        strips.fold(0, 1);
        strips.hand(0, 2);
        strips.line(0, 3);
        strips.count(1);
        strips.bestSlide(1, 0);
        strips.bestExchange(0);
        strips.ifTurned(0, 1, 1);
        strips.put('a');
        strips.fault();
        strips.wipe();
        strips.save(0);
        CHECKS.due("undo: looks are not recorded", 2, strips.count(10));
    }

    // Promise 23
    private static void save() {
        FoldedStrips strips = drawn();
        CHECKS.due("save: an empty object", 0, new FoldedStrips().save(0));
        CHECKS.due("save", 5, strips.save(0));
        List<Integer> first = Strips.figure(strips);
        strips.clear(0);
        strips.exchange(1, 5);
        CHECKS.due("save: the other slot", 2, strips.save(1));
        List<Integer> second = Strips.figure(strips);
        strips.clear(5);
        CHECKS.due("save: restore the first one", 5, strips.restore(0));
        CHECKS.holds("save: its figure with its hands", Strips.figure(strips).equals(first));
        CHECKS.due("save: restore the second one", 2, strips.restore(1));
        CHECKS.holds("save: the other figure", Strips.figure(strips).equals(second));
        strips.join(0, 0, 1);
        CHECKS.due("save: over what was there", 3, strips.save(0));
        strips.clear(0);
        CHECKS.due("save: restore what was saved last", 3, strips.restore(0));
        CHECKS.due("save: its stroke", 1, strips.end(0, 0, 0));
    }

    private static void saveKeepsTheHistory() {
        FoldedStrips strips = drawn();
        strips.put(Strips.packed("a|"));
        List<Integer> before = Strips.everything(strips);
        strips.save(0);
        CHECKS.holds("save: nothing else changes", Strips.everything(strips).equals(before));
        strips.wipe();
        strips.put(Strips.packed("c"));
        strips.clear(0);
        CHECKS.due("save: restore", 5, strips.restore(0));
        CHECKS.due("save: the pad was not saved", 1, strips.count(9));
        CHECKS.due("save: the history was not saved", 4, strips.count(10));
        strips.save(1);
        strips.clear(1);
        strips.restore(0);
        CHECKS.due("save: the other slot was not saved", 5, strips.restore(1));
    }

    // Promise 24
    private static void restore() {
        FoldedStrips strips = drawn();
        CHECKS.due("restore: nothing was saved", -5, strips.restore(0));
        strips.save(1);
        CHECKS.due("restore: just the other slot was saved", -5, strips.restore(0));
        List<Integer> saved = Strips.figure(strips);
        strips.clear(0);
        CHECKS.due("restore", 5, strips.restore(1));
        strips.rub(0, 0);
        strips.join(2, 0, 12);
        CHECKS.due("restore: the slot keeps it", 5, strips.restore(1));
        CHECKS.holds("restore: the figure", Strips.figure(strips).equals(saved));
        FoldedStrips empty = new FoldedStrips();
        empty.save(0);
        empty.join(0, 0, 1);
        CHECKS.due("restore: an empty strip", 0, empty.restore(0));
    }

    private static void restoreIsAChange() {
        FoldedStrips strips = drawn();
        strips.save(0);
        CHECKS.due("restore: the same again", 5, strips.restore(0));
        CHECKS.due("restore: that is a change too", 3, strips.count(10));
        strips.clear(0);
        List<Integer> before = Strips.figure(strips);
        strips.restore(0);
        CHECKS.due("restore: undo", 4, strips.undo());
        CHECKS.holds("restore: as before it", Strips.figure(strips).equals(before));
    }

    private static void slotsRefuse() {
        FoldedStrips strips = drawn();
        strips.save(0);
        strips.save(1);
        List<Integer> before = Strips.everything(strips);
        CHECKS.due("save: slot 2", -2, strips.save(2));
        CHECKS.due("save: slot -1", -2, strips.save(-1));
        CHECKS.due("restore: slot 2", -2, strips.restore(2));
        CHECKS.due("restore: slot -1", -2, strips.restore(-1));
        for (int out : Strips.FAR_OUT) {
            CHECKS.due("save: slot " + out, -2, strips.save(out));
            CHECKS.due("restore: slot " + out, -2, strips.restore(out));
        }
        CHECKS.holds("slots: errors change nothing", Strips.everything(strips).equals(before));
    }
}
