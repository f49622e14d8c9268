import java.util.ArrayList;
import java.util.List;

/** Short ways to fill an object of FoldedStrips and to read all of it. */
final class Strips {
    /** Numbers that no argument with a range takes. */
    static final int[] FAR_OUT = {Integer.MIN_VALUE, Integer.MIN_VALUE + 1, -1000000, -25, 1000000, Integer.MAX_VALUE};

    private Strips() {
    }

    static long packed(String text) {
        long number = 0;
        for (int at = 0; at < text.length(); at++) {
            number = number << 8 | text.charAt(at);
        }
        return number;
    }

    static int putText(FoldedStrips strips, String text) {
        int answer = strips.count(9);
        for (int at = 0; at < text.length(); at += 8) {
            answer = strips.put(packed(text.substring(at, Math.min(text.length(), at + 8))));
        }
        return answer;
    }

    static int drawText(FoldedStrips strips, int panel, int hand, String text) {
        strips.wipe();
        putText(strips, text);
        return strips.draw(panel, hand);
    }

    static int faultOf(String text) {
        FoldedStrips strips = new FoldedStrips();
        putText(strips, text);
        return strips.fault();
    }

    /** All that can be read of strokes and hands; the pad and the history are left out. */
    static List<Integer> figure(FoldedStrips strips) {
        List<Integer> all = new ArrayList<>();
        for (int panel = 0; panel < 6; panel++) {
            all.add(strips.panel(panel, 1));
            for (int end = 0; end < 24; end++) {
                all.add(strips.end(panel, end, 0));
            }
        }
        return all;
    }

    /** The figure with the pad's length, its fault and the length of the history. */
    static List<Integer> everything(FoldedStrips strips) {
        List<Integer> all = figure(strips);
        all.add(strips.count(9));
        all.add(strips.fault());
        all.add(strips.count(10));
        return all;
    }
}
