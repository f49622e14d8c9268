import java.util.ArrayList;
import java.util.List;
import java.util.function.Consumer;
import java.util.function.Supplier;

/** Short ways to fill an object of FoldedStrips and to read all of it. */
final class Strips {
    /** Numbers that no argument with a range takes, even if just some of their bits are looked at. */
    static final int[] FAR_OUT = {Integer.MIN_VALUE, Integer.MIN_VALUE + 1, -1000000, -65536, -256, -25, 256, 65536,
        1 << 24, 1000000, Integer.MAX_VALUE};

    /** Texts that take all ends of a panel; a longer text without a fault there is not. */
    static final String STRAIGHT = "a|a;b|b;c|c;d|d;e|e;f|f;g|g;h|h;i|i;j|j;k|k;l|l";
    static final String CROSSED = "a|l;b|k;c|j;d|i;e|h;f|g;g|f;h|e;i|d;j|c;k|b;l|a";
    static final String ARCS = "a^b;c^d;e^f;g^h;i^j;k^l;a_b;c_d;e_f;g_h;i_j;k_l";

    /** Texts that take all ends of one edge. */
    static final String UPPER_ARCS = "a^b;c^d;e^f;g^h;i^j;k^l";
    static final String LOWER_ARCS = "a_b;c_d;e_f;g_h;i_j;k_l";

    private Strips() {
    }

    static long packed(String text) {
        long number = 0;
        for (int at = 0; at < text.length(); at++) {
            number = number << 8 | text.charAt(at);
        }
        return number;
    }

    static int putText(FoldedStrips strips, String text) {
        int answer = 0;
        for (int at = 0; at < text.length(); at += 8) {
            answer = strips.put(packed(text.substring(at, Math.min(text.length(), at + 8))));
        }
        return answer;
    }

    static int drawText(FoldedStrips strips, int panel, int hand, String text) {
        strips.wipe();
        putText(strips, text);
        return strips.draw(panel, hand);
    }

    /** A new object with these texts on its panels, from the top; a panel whose text is empty has no strokes. */
    static FoldedStrips drawn(String... texts) {
        FoldedStrips strips = new FoldedStrips();
        for (int panel = 0; panel < texts.length; panel++) {
            if (!texts[panel].isEmpty() && drawText(strips, panel, panel, texts[panel]) < 0) {
                throw new IllegalStateException("can't be drawn: " + texts[panel]);
            }
        }
        return strips;
    }

    /** A new object with one text on all panels. */
    static FoldedStrips drawnAll(String text) {
        return drawn(text, text, text, text, text, text);
    }

    /** A new object with these texts on its panels, which has its slots, its history and its pad in use, too. */
    static FoldedStrips inUse(String... texts) {
        FoldedStrips strips = drawn(texts);
        strips.save(0);
        strips.turn(1, 1);
        strips.save(1);
        strips.undo();
        putText(strips, "a|");
        return strips;
    }

    static int faultOf(String text) {
        FoldedStrips strips = new FoldedStrips();
        putText(strips, text);
        return strips.fault();
    }

    /** All strokes and hands, by 150 calls; the pad, the history and the slots are left out. */
    static List<Integer> figure(FoldedStrips strips) {
        List<Integer> all = new ArrayList<>();
        for (int panel = 0; panel < 6; panel++) {
            all.add(strips.panel(panel, 1));
            for (int end = 0; end < 24; end++) {
                all.add(strips.end(panel, end, 0));
            }
        }
        return all;
    }

    /** The figure with the pad's length, its fault and the length of the history, by 153 calls. */
    static List<Integer> everything(FoldedStrips strips) {
        List<Integer> all = figure(strips);
        all.add(strips.count(9));
        all.add(strips.fault());
        all.add(strips.count(10));
        return all;
    }

    /**
     * All that an object holds: its figure, its pad, what is behind each undo and in each slot. To see one of these
     * changes the object, so that each is looked at in an object of its own, made in the same way.
     */
    static List<List<Integer>> whole(Supplier<FoldedStrips> made) {
        List<List<Integer>> all = new ArrayList<>();
        all.add(everything(made.get()));
        all.add(padOf(made.get()));
        for (int slot = 0; slot < 2; slot++) {
            all.add(slotOf(made.get(), slot));
        }
        for (int many = 1; many <= 7; many++) {
            all.add(undone(made.get(), many));
        }
        return all;
    }

    /** Whether an object holds the same with these calls and without them. */
    static boolean holdsTheSame(Supplier<FoldedStrips> made, Consumer<FoldedStrips> calls) {
        return whole(made).equals(whole(() -> {
            FoldedStrips strips = made.get();
            calls.accept(strips);
            return strips;
        }));
    }

    /** The strokes of the pad, as they come on a panel; a text that is only too short is ended by a letter. */
    private static List<Integer> padOf(FoldedStrips strips) {
        List<Integer> all = new ArrayList<>();
        all.add(strips.fault());
        if (strips.fault() == strips.count(9)) {
            all.add(strips.put('l'));
        }
        all.add(strips.draw(5, 5));
        for (int end = 0; end < 24; end++) {
            all.add(strips.end(5, end, 0));
        }
        return all;
    }

    private static List<Integer> slotOf(FoldedStrips strips, int slot) {
        List<Integer> all = new ArrayList<>();
        all.add(strips.restore(slot));
        all.addAll(figure(strips));
        return all;
    }

    private static List<Integer> undone(FoldedStrips strips, int many) {
        List<Integer> all = new ArrayList<>();
        for (int at = 0; at < many; at++) {
            all.add(strips.undo());
        }
        all.addAll(figure(strips));
        return all;
    }
}
