import java.util.ArrayList;
import java.util.List;
import java.util.function.Consumer;
import java.util.function.ToIntFunction;

/** Promises 22 to 24: undo, save, restore. */
public final class UndoSaveTest {
    private static final Checks CHECKS = new Checks("UndoSaveTest");
    private static final int BAD_VALUE = -2, NOT_POSSIBLE = -5, NONE = -6;
    private static final int MOST_STATES = 6;

    public static void main(String[] args) {
        sentencesOfUndo();
        sentencesOfSave();
        sentencesOfRestore();
        CHECKS.close();
    }

    // ---- promise 22

    private static void sentencesOfUndo() {
        CHECKS.sentence("undo: Undoes the latest change", UndoSaveTest::undoesTheLatest);
        CHECKS.sentence("undo: everything except the pad, the slots and the history is as it was before it",
            UndoSaveTest::everythingIsAsBefore);
        CHECKS.sentence("undo: except the pad", UndoSaveTest::undoLeavesThePad);
        CHECKS.sentence("undo: except the slots", UndoSaveTest::undoLeavesTheSlots);
        CHECKS.sentence("undo: A history of at most 6 states is kept", UndoSaveTest::upToSixStates);
        CHECKS.sentence("undo: when one more is recorded, the oldest one is dropped",
            UndoSaveTest::theOldestIsDropped);
        CHECKS.sentence("undo: each method that is a change records the state before it",
            UndoSaveTest::eachChangeIsRecorded);
        CHECKS.sentence("undo: also if nothing is different then", UndoSaveTest::recordedIfNothingIsDifferent);
        CHECKS.sentence("undo: and returns no error", UndoSaveTest::errorsAreNotRecorded);
        CHECKS.sentence("undo: methods that are no change record nothing", UndoSaveTest::othersAreNotRecorded);
        CHECKS.sentence("undo is no change itself", UndoSaveTest::undoIsNotRecorded);
        CHECKS.sentence("undo: Returns how many changes can be undone then", UndoSaveTest::howManyAreLeft);
        CHECKS.sentence("undo: NOT_POSSIBLE if there is none", UndoSaveTest::nothingToUndo);
        CHECKS.sentence("undo: other changes behind it", UndoSaveTest::changesBehindUndo);
    }

    private static void undoesTheLatest() {
        FoldedStrips strips = new FoldedStrips();
        strips.join(0, 0, 1);
        strips.join(5, 22, 23);
        CHECKS.due("undo", 1, strips.undo());
        CHECKS.due("the latest one is gone", NONE, strips.end(5, 23, 0));
        CHECKS.due("the one before it stays", 1, strips.end(0, 0, 0));
        CHECKS.due("undo again", 0, strips.undo());
        CHECKS.due("that is gone, too", NONE, strips.end(0, 0, 0));
    }

    private static FoldedStrips inUse() {
        FoldedStrips strips = new FoldedStrips();
        Strips.drawText(strips, 0, 3, "a|a;b|c;d_e");
        Strips.drawText(strips, 1, 2, "b|b;d^e");
        strips.save(1);
        strips.clear(0);
        strips.save(0);
        strips.undo();
        Strips.putText(strips, "f|f");
        return strips;
    }

    private static int change(FoldedStrips strips, int which) {
        return switch (which) {
            case 0 -> strips.draw(1, 5);
            case 1 -> strips.join(1, 7, 8);
            case 2 -> strips.rub(0, 0);
            case 3 -> strips.clear(0);
            case 4 -> strips.slide(1, 1);
            case 5 -> strips.turn(0, 2);
            case 6 -> strips.exchange(0, 1);
            case 7 -> strips.takeUp(1);
            default -> strips.restore(0);
        };
    }

    private static void everythingIsAsBefore() {
        List<Integer> before = Strips.figure(inUse());
        for (int which = 0; which <= 8; which++) {
            FoldedStrips strips = inUse();
            CHECKS.holds("the change " + which, change(strips, which) >= 0);
            CHECKS.holds("it makes something different: " + which, !Strips.figure(strips).equals(before));
            CHECKS.due("undo of " + which, 2, strips.undo());
            CHECKS.holds("strokes and hands are as before " + which, Strips.figure(strips).equals(before));
        }
    }

    private static void undoLeavesThePad() {
        FoldedStrips strips = new FoldedStrips();
        Strips.putText(strips, "a|a");
        strips.join(0, 0, 1);
        Strips.putText(strips, ";b|b");
        strips.undo();
        CHECKS.due("what was put is still there", 7, strips.count(9));
        CHECKS.due("it has no fault", NONE, strips.fault());
        CHECKS.due("it is drawn", 2, strips.draw(3, 3));
        strips.undo();
        CHECKS.due("undo of draw does not bring it back", 0, strips.count(9));
        strips.join(0, 0, 1);
        Strips.putText(strips, "c|c");
        strips.wipe();
        strips.undo();
        CHECKS.due("nor what was wiped", 0, strips.count(9));
    }

    private static void undoLeavesTheSlots() {
        FoldedStrips strips = new FoldedStrips();
        strips.join(0, 0, 1);
        strips.save(0);
        strips.join(0, 2, 3);
        strips.save(0);
        strips.undo();
        strips.undo();
        CHECKS.due("no stroke is left", 0, strips.count(0));
        CHECKS.due("what was saved last is still there", 2, strips.restore(0));
        strips.undo();
        CHECKS.due("it still is, behind undo of restore", 2, strips.restore(0));
        CHECKS.due("the other one was not saved", NOT_POSSIBLE, strips.restore(1));
    }

    /** An object with so many changes, of which each one makes one stroke more. */
    private static FoldedStrips withChanges(int many) {
        FoldedStrips strips = new FoldedStrips();
        for (int at = 0; at < many; at++) {
            strips.join(at / 12, at % 12, 12 + at % 12);
        }
        return strips;
    }

    private static void upToSixStates() {
        for (int many = 1; many <= MOST_STATES; many++) {
            FoldedStrips strips = withChanges(many);
            CHECKS.due("changes of " + many, many, strips.count(10));
            for (int left = many - 1; left >= 0; left--) {
                CHECKS.due("undo of " + many, left, strips.undo());
                CHECKS.due("strokes that are left of " + many, left, strips.count(0));
            }
            CHECKS.due("undo of all of " + many, NOT_POSSIBLE, strips.undo());
        }
    }

    private static void theOldestIsDropped() {
        for (int many : new int[] {7, 8, 11, 12, 13, 18, 19, 25, 60, 72}) {
            FoldedStrips strips = withChanges(many);
            CHECKS.due("changes of " + many, MOST_STATES, strips.count(10));
            for (int left = MOST_STATES - 1; left >= 0; left--) {
                CHECKS.due("undo of " + many, left, strips.undo());
                CHECKS.due("strokes that are left of " + many, many - MOST_STATES + left, strips.count(0));
            }
            CHECKS.due("undo of what was dropped of " + many, NOT_POSSIBLE, strips.undo());
            CHECKS.due("strokes that stay of " + many, many - MOST_STATES, strips.count(0));
        }
        FoldedStrips strips = withChanges(MOST_STATES);
        strips.clear(5);
        for (int undone = 0; undone < MOST_STATES; undone++) {
            strips.undo();
        }
        CHECKS.due("the first stroke stays", 12, strips.end(0, 0, 0));
        CHECKS.due("the second one does not", NONE, strips.end(0, 1, 0));
    }

    private static void eachChangeIsRecorded() {
        for (int which = 0; which <= 8; which++) {
            FoldedStrips strips = inUse();
            CHECKS.due("ahead of " + which, 2, strips.count(10));
            change(strips, which);
            CHECKS.due("behind " + which, 3, strips.count(10));
        }
    }

    private static void staysTheSame(String call, FoldedStrips strips, ToIntFunction<FoldedStrips> change) {
        int changes = strips.count(10);
        List<Integer> before = Strips.figure(strips);
        CHECKS.holds(call + " is no error", change.applyAsInt(strips) >= 0);
        CHECKS.holds(call + " makes nothing different", Strips.figure(strips).equals(before));
        CHECKS.due(call + " is recorded", changes + 1, strips.count(10));
        CHECKS.due(call + " is undone", changes, strips.undo());
    }

    private static void recordedIfNothingIsDifferent() {
        FoldedStrips drawn = Strips.drawn("a|a");
        Strips.putText(drawn, "a|a");
        staysTheSame("draw of the same", drawn, strips -> strips.draw(0, 0));
        staysTheSame("clear of an empty panel", new FoldedStrips(), strips -> strips.clear(0));
        staysTheSame("slide of an empty panel", new FoldedStrips(), strips -> strips.slide(0, 1));
        staysTheSame("turn of an empty panel", new FoldedStrips(), strips -> strips.turn(0, 0));
        staysTheSame("turn to the same", Strips.drawn("a|a;l|l"), strips -> strips.turn(0, 2));
        FoldedStrips alike = Strips.drawn("a|b");
        Strips.drawText(alike, 1, 0, "a|b");
        staysTheSame("exchange of panels that are alike", alike, strips -> strips.exchange(0, 1));
        staysTheSame("takeUp of no mark", new FoldedStrips(), strips -> strips.takeUp(1));
        FoldedStrips saved = Strips.drawn("a|b");
        saved.save(0);
        staysTheSame("restore of the same", saved, strips -> strips.restore(0));
    }

    private static void isAnError(String call, int answer) {
        CHECKS.holds(call + " is an error", answer < 0 && answer >= NOT_POSSIBLE);
    }

    private static void errorsAreNotRecorded() {
        FoldedStrips strips = inUse();
        isAnError("draw on no panel", strips.draw(6, 0));
        isAnError("draw of no hand", strips.draw(0, 6));
        isAnError("join of an end that is taken", strips.join(0, 0, 1));
        isAnError("join of the same", strips.join(0, 5, 5));
        isAnError("join with no end", strips.join(0, 5, 24));
        isAnError("rub of an end without a stroke", strips.rub(0, 11));
        isAnError("rub of no end", strips.rub(0, -1));
        isAnError("clear of no panel", strips.clear(6));
        isAnError("slide by nothing", strips.slide(0, 0));
        isAnError("slide beyond the edge", strips.slide(0, 11));
        isAnError("turn in no way", strips.turn(0, 3));
        isAnError("exchange of the same", strips.exchange(2, 2));
        isAnError("exchange with no panel", strips.exchange(2, 6));
        isAnError("takeUp of the panel 0", strips.takeUp(0));
        isAnError("restore of no slot", strips.restore(2));
        strips.wipe();
        isAnError("draw of nothing", strips.draw(0, 0));
        CHECKS.due("changes", 2, strips.count(10));
        CHECKS.due("undo", 1, strips.undo());
        CHECKS.due("it undid the latest change", 3, strips.count(0));
    }

    private static void notRecorded(String call, Consumer<FoldedStrips> asked) {
        FoldedStrips strips = inUse();
        asked.accept(strips);
        CHECKS.due(call, 2, strips.count(10));
    }

    private static void othersAreNotRecorded() {
        notRecorded("end", strips -> strips.end(0, 0, 2));
        notRecorded("panel", strips -> strips.panel(0, 6));
        notRecorded("fold", strips -> strips.fold(0, 1));
        notRecorded("hand", strips -> strips.hand(0, 2));
        notRecorded("line", strips -> strips.line(0, 3));
        notRecorded("count", strips -> strips.count(1));
        notRecorded("bestSlide", strips -> strips.bestSlide(1, 0));
        notRecorded("bestExchange", strips -> strips.bestExchange(0));
        notRecorded("ifTurned", strips -> strips.ifTurned(0, 1, 1));
        notRecorded("put", strips -> strips.put('a'));
        notRecorded("fault", strips -> strips.fault());
        notRecorded("wipe", strips -> strips.wipe());
        notRecorded("save", strips -> strips.save(0));
    }

    private static void undoIsNotRecorded() {
        FoldedStrips strips = withChanges(3);
        strips.undo();
        CHECKS.due("changes", 2, strips.count(10));
        strips.undo();
        CHECKS.due("it does not bring back what was undone", 1, strips.count(0));
    }

    private static void howManyAreLeft() {
        FoldedStrips strips = withChanges(9);
        for (int left = 5; left >= 0; left--) {
            CHECKS.due("undo", left, strips.undo());
            CHECKS.due("as many as are counted", left, strips.count(10));
        }
    }

    private static void nothingToUndo() {
        FoldedStrips strips = new FoldedStrips();
        CHECKS.due("of a new object", NOT_POSSIBLE, strips.undo());
        strips.join(0, 0, 1);
        CHECKS.due("of one change", 0, strips.undo());
        CHECKS.due("when all is undone", NOT_POSSIBLE, strips.undo());
        CHECKS.due("and again", NOT_POSSIBLE, strips.undo());
        CHECKS.due("no stroke", 0, strips.count(0));
        strips.save(0);
        Strips.putText(strips, "a|a");
        CHECKS.due("behind calls that are no changes", NOT_POSSIBLE, strips.undo());
    }

    private static void changesBehindUndo() {
        FoldedStrips strips = withChanges(8);
        strips.undo();
        strips.undo();
        strips.clear(0);
        CHECKS.due("one more behind four that are left", 5, strips.count(10));
        strips.join(5, 0, 1);
        CHECKS.due("six again", 6, strips.count(10));
        strips.join(5, 2, 3);
        CHECKS.due("still six", 6, strips.count(10));
        int[] strokes = {1, 0, 6, 5, 4, 3};
        for (int at = 0; at < MOST_STATES; at++) {
            CHECKS.due("undo", 5 - at, strips.undo());
            CHECKS.due("strokes then", strokes[at], strips.count(0));
        }
        CHECKS.due("nothing is left", NOT_POSSIBLE, strips.undo());
    }

    // ---- promise 23

    private static void sentencesOfSave() {
        CHECKS.sentence("save: Saves everything", UndoSaveTest::savesEverything);
        CHECKS.sentence("save: except the pad, the history and the slots", UndoSaveTest::savesNoMore);
        CHECKS.sentence("save: overwrites what was saved there", UndoSaveTest::overwrites);
        CHECKS.sentence("save: slot: 0 or 1", UndoSaveTest::twoSlots);
        CHECKS.sentence("save: Returns how many strokes there are", UndoSaveTest::saveAnswers);
        CHECKS.sentence("save is no change", UndoSaveTest::saveIsNoChange);
        CHECKS.sentence("save: BAD_VALUE if there is no such slot", UndoSaveTest::saveBadValue);
    }

    private static void savesEverything() {
        for (int slot = 0; slot < 2; slot++) {
            FoldedStrips strips = inUse();
            strips.exchange(0, 5);
            strips.save(slot);
            List<Integer> saved = Strips.figure(strips);
            for (int panel = 0; panel < 6; panel++) {
                Strips.drawText(strips, panel, 1, Strips.CROSSED);
            }
            strips.restore(slot);
            CHECKS.holds("strokes and hands of the slot " + slot, Strips.figure(strips).equals(saved));
        }
    }

    private static void savesNoMore() {
        FoldedStrips strips = withChanges(2);
        Strips.putText(strips, "a|");
        strips.save(0);
        Strips.putText(strips, "a");
        strips.clear(0);
        strips.clear(1);
        strips.save(1);
        CHECKS.due("restore", 2, strips.restore(0));
        CHECKS.due("the pad is as it is now", 3, strips.count(9));
        CHECKS.due("the history is as it is now", 5, strips.count(10));
        CHECKS.due("the other slot is as it is now", 0, strips.restore(1));
    }

    private static void overwrites() {
        FoldedStrips strips = new FoldedStrips();
        List<Integer> strokes = new ArrayList<>();
        for (int many = 1; many <= 3; many++) {
            strips.join(0, many, 12 + many);
            strokes.add(strips.save(1));
        }
        CHECKS.holds("saved three times", strokes.equals(List.of(1, 2, 3)));
        strips.clear(0);
        CHECKS.due("the last one is there", 3, strips.restore(1));
        strips.clear(0);
        CHECKS.due("nothing over something", 0, strips.save(1));
        strips.join(0, 0, 1);
        CHECKS.due("nothing is there", 0, strips.restore(1));
    }

    private static void twoSlots() {
        FoldedStrips strips = new FoldedStrips();
        strips.join(0, 0, 1);
        CHECKS.due("the slot 0", 1, strips.save(0));
        strips.join(0, 2, 3);
        CHECKS.due("the slot 1", 2, strips.save(1));
        strips.clear(0);
        CHECKS.due("what is in the slot 0", 1, strips.restore(0));
        CHECKS.due("what is in the slot 1", 2, strips.restore(1));
        CHECKS.due("what is still in the slot 0", 1, strips.restore(0));
    }

    private static void saveAnswers() {
        CHECKS.due("none", 0, new FoldedStrips().save(0));
        CHECKS.due("one", 1, Strips.drawn("", "", "", "", "", "a|a").save(1));
        CHECKS.due("some in some panels", 5, inUse().save(0));
        CHECKS.due("all that can be", 72, Strips.drawnAll(Strips.CROSSED).save(1));
    }

    private static void saveIsNoChange() {
        FoldedStrips strips = inUse();
        List<Integer> before = Strips.everything(strips);
        strips.save(0);
        strips.save(1);
        CHECKS.holds("nothing else is different", Strips.everything(strips).equals(before));
        CHECKS.due("undo takes the drawing back", 1, strips.undo());
        CHECKS.due("its strokes are gone", 3, strips.count(0));
    }

    private static void saveBadValue() {
        FoldedStrips strips = Strips.drawn("a|a");
        CHECKS.due("slot -1", BAD_VALUE, strips.save(-1));
        CHECKS.due("slot 2", BAD_VALUE, strips.save(2));
        CHECKS.due("nothing in the slot 0", NOT_POSSIBLE, strips.restore(0));
        CHECKS.due("nothing in the slot 1", NOT_POSSIBLE, strips.restore(1));
        CHECKS.due("slot 0", 1, strips.save(0));
        CHECKS.due("slot 1", 1, strips.save(1));
    }

    // ---- promise 24

    private static void sentencesOfRestore() {
        CHECKS.sentence("restore: Restores what was saved last in a slot", UndoSaveTest::restoresTheLast);
        CHECKS.sentence("restore: which keeps it", UndoSaveTest::slotsKeepIt);
        CHECKS.sentence("restore: This is a change", UndoSaveTest::restoreIsAChange);
        CHECKS.sentence("restore: slot: 0 or 1; BAD_VALUE if there is no such slot",
            UndoSaveTest::restoreBadValue);
        CHECKS.sentence("restore: Returns how many strokes there are then", UndoSaveTest::restoreAnswers);
        CHECKS.sentence("restore: NOT_POSSIBLE if nothing was saved in it", UndoSaveTest::nothingWasSaved);
    }

    private static void restoresTheLast() {
        FoldedStrips strips = inUse();
        strips.save(0);
        strips.exchange(0, 4);
        strips.save(0);
        List<Integer> last = Strips.figure(strips);
        strips.turn(4, 1);
        strips.restore(0);
        CHECKS.holds("strokes and hands", Strips.figure(strips).equals(last));
        CHECKS.due("the pad stays", 3, strips.count(9));
    }

    private static void slotsKeepIt() {
        FoldedStrips strips = Strips.drawn("a|b");
        strips.save(0);
        for (int many = 0; many < 8; many++) {
            CHECKS.due("restore", 1, strips.restore(0));
            CHECKS.due("the stroke", 13, strips.end(0, 0, 0));
            strips.turn(0, 0);
            strips.join(many % 6, 5, 6);
            strips.exchange(0, 5);
        }
        CHECKS.due("and again", 1, strips.restore(0));
        CHECKS.due("the hand", 0, strips.panel(0, 1));
    }

    private static void restoreIsAChange() {
        FoldedStrips strips = Strips.drawn("a|b");
        strips.save(0);
        strips.clear(0);
        CHECKS.due("ahead of it", 2, strips.count(10));
        strips.restore(0);
        CHECKS.due("behind it", 3, strips.count(10));
        CHECKS.due("undo", 2, strips.undo());
        CHECKS.due("no strokes, as before it", 0, strips.count(0));
        for (int many = 3; many <= 8; many++) {
            strips.restore(0);
            CHECKS.due("as many as can be", Math.min(many, MOST_STATES), strips.count(10));
        }
    }

    private static void restoreBadValue() {
        FoldedStrips strips = Strips.drawn("a|b");
        strips.save(0);
        strips.save(1);
        CHECKS.due("slot -1", BAD_VALUE, strips.restore(-1));
        CHECKS.due("slot 2", BAD_VALUE, strips.restore(2));
        CHECKS.due("they are no changes", 1, strips.count(10));
        CHECKS.due("slot 0", 1, strips.restore(0));
        CHECKS.due("slot 1", 1, strips.restore(1));
    }

    private static void restoreAnswers() {
        FoldedStrips strips = Strips.drawnAll(Strips.STRAIGHT);
        strips.save(0);
        for (int panel = 0; panel < 6; panel++) {
            strips.clear(panel);
        }
        strips.save(1);
        strips.join(0, 0, 1);
        CHECKS.due("none", 0, strips.restore(1));
        CHECKS.due("none is there", 0, strips.count(0));
        CHECKS.due("all that can be", 72, strips.restore(0));
        CHECKS.due("all are there", 72, strips.count(0));
    }

    private static void nothingWasSaved() {
        FoldedStrips strips = Strips.drawn("a|b");
        CHECKS.due("in neither: 0", NOT_POSSIBLE, strips.restore(0));
        CHECKS.due("in neither: 1", NOT_POSSIBLE, strips.restore(1));
        CHECKS.due("the strokes stay", 1, strips.count(0));
        strips.save(1);
        CHECKS.due("just in the other one", NOT_POSSIBLE, strips.restore(0));
        CHECKS.due("in this one", 1, strips.restore(1));
        FoldedStrips empty = new FoldedStrips();
        empty.save(0);
        CHECKS.due("to save no strokes is to save", 0, empty.restore(0));
        CHECKS.due("not in the other one", NOT_POSSIBLE, empty.restore(1));
    }
}
