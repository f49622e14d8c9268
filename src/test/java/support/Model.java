import java.util.ArrayDeque;
import java.util.ArrayList;
import java.util.Deque;
import java.util.HashSet;
import java.util.List;
import java.util.Set;

/**
 * The document told a second time, slowly and by other means than the class: strokes as a list of records, lines by
 * looking for what meets what, crossings by walking around the edge, faults of texts by trying all ways to go on.
 */
final class Model {
    static final int NO_SUCH = -1, BAD_VALUE = -2, BAD_TEXT = -3, TOO_MANY = -4, NOT_POSSIBLE = -5, NONE = -6;

    record End(int panel, boolean lower, int column) {
        static End of(int panel, int number) {
            return new End(panel, number >= 12, number % 12);
        }

        int number() {
            return lower ? 12 + column : column;
        }

        End neighbour() {
            int next = lower ? panel + 1 : panel - 1;
            return next < 0 || next > 5 ? null : new End(next, !lower, column);
        }
    }

    record Stroke(End one, End two) {
        boolean has(End end) {
            return one.equals(end) || two.equals(end);
        }

        int panel() {
            return one.panel();
        }

        int lesser() {
            return Math.min(one.number(), two.number());
        }
    }

    record State(List<Stroke> strokes, List<Integer> hands) {
    }

    private List<Stroke> strokes = new ArrayList<>();
    private List<Integer> hands = new ArrayList<>(List.of(0, 1, 2, 3, 4, 5));
    private String pad = "";
    private final Deque<State> history = new ArrayDeque<>();
    private final State[] slots = new State[2];

    // ---- small questions

    private static boolean within(int number, int size) {
        return number >= 0 && number < size;
    }

    private State now() {
        return new State(List.copyOf(strokes), List.copyOf(hands));
    }

    private void go(State state) {
        strokes = new ArrayList<>(state.strokes());
        hands = new ArrayList<>(state.hands());
    }

    private void change() {
        history.addLast(now());
        if (history.size() > 6) {
            history.removeFirst();
        }
    }

    private Stroke at(End end) {
        for (Stroke stroke : strokes) {
            if (stroke.has(end)) {
                return stroke;
            }
        }
        return null;
    }

    private List<Stroke> of(int panel) {
        List<Stroke> found = new ArrayList<>();
        for (Stroke stroke : strokes) {
            if (stroke.panel() == panel) {
                found.add(stroke);
            }
        }
        return found;
    }

    private int how(End end) {
        if (at(end) == null) {
            return 0;
        }
        if (end.neighbour() == null) {
            return 3;
        }
        return at(end.neighbour()) != null ? 1 : 2;
    }

    private int endsThatAre(int how) {
        int many = 0;
        for (Stroke stroke : strokes) {
            many += how(stroke.one()) == how ? 1 : 0;
            many += how(stroke.two()) == how ? 1 : 0;
        }
        return many;
    }

    private int loose() {
        return endsThatAre(2);
    }

    // ---- changes

    int draw(int panel, int hand) {
        if (!within(panel, 6)) {
            return NO_SUCH;
        }
        if (!within(hand, 6)) {
            return BAD_VALUE;
        }
        if (!isText(pad)) {
            return BAD_TEXT;
        }
        change();
        strokes.removeIf(stroke -> stroke.panel() == panel);
        for (String part : pad.split(";")) {
            strokes.add(read(panel, part));
        }
        hands.set(panel, hand);
        pad = "";
        return of(panel).size();
    }

    int join(int panel, int end, int other) {
        if (!within(panel, 6) || !within(end, 24) || !within(other, 24)) {
            return NO_SUCH;
        }
        if (end == other) {
            return BAD_VALUE;
        }
        if (at(End.of(panel, end)) != null || at(End.of(panel, other)) != null) {
            return NOT_POSSIBLE;
        }
        change();
        strokes.add(new Stroke(End.of(panel, end), End.of(panel, other)));
        return of(panel).size();
    }

    private static End far(Stroke stroke, End end) {
        return stroke.one().equals(end) ? stroke.two() : stroke.one();
    }

    int rub(int panel, int end) {
        if (!within(panel, 6) || !within(end, 24)) {
            return NO_SUCH;
        }
        Stroke stroke = at(End.of(panel, end));
        if (stroke == null) {
            return NOT_POSSIBLE;
        }
        change();
        strokes.remove(stroke);
        return far(stroke, End.of(panel, end)).number();
    }

    int clear(int panel) {
        if (!within(panel, 6)) {
            return NO_SUCH;
        }
        change();
        int many = of(panel).size();
        strokes.removeAll(of(panel));
        return many;
    }

    /** The panel's strokes with ends moved by the columns; null if one would be beyond the edge. */
    private List<Stroke> slid(int panel, int columns) {
        List<Stroke> after = new ArrayList<>();
        for (Stroke stroke : strokes) {
            if (stroke.panel() != panel) {
                after.add(stroke);
                continue;
            }
            End one = new End(panel, stroke.one().lower(), stroke.one().column() + columns);
            End two = new End(panel, stroke.two().lower(), stroke.two().column() + columns);
            if (!within(one.column(), 12) || !within(two.column(), 12)) {
                return null;
            }
            after.add(new Stroke(one, two));
        }
        return after;
    }

    int slide(int panel, int columns) {
        if (!within(panel, 6)) {
            return NO_SUCH;
        }
        if (columns == 0 || !within(columns + 11, 23)) {
            return BAD_VALUE;
        }
        List<Stroke> after = slid(panel, columns);
        if (after == null) {
            return NOT_POSSIBLE;
        }
        change();
        strokes = after;
        return loose();
    }

    private static End turned(End end, int how) {
        return switch (how) {
            case 0 -> new End(end.panel(), end.lower(), 11 - end.column());
            case 1 -> new End(end.panel(), !end.lower(), end.column());
            default -> new End(end.panel(), !end.lower(), 11 - end.column());
        };
    }

    private List<Stroke> turned(int panel, int how) {
        List<Stroke> after = new ArrayList<>();
        for (Stroke stroke : strokes) {
            boolean here = stroke.panel() == panel;
            after.add(here ? new Stroke(turned(stroke.one(), how), turned(stroke.two(), how)) : stroke);
        }
        return after;
    }

    int turn(int panel, int how) {
        if (!within(panel, 6)) {
            return NO_SUCH;
        }
        if (!within(how, 3)) {
            return BAD_VALUE;
        }
        change();
        strokes = turned(panel, how);
        return loose();
    }

    private static End moved(End end, int panel) {
        return new End(panel, end.lower(), end.column());
    }

    private List<Stroke> exchanged(int panel, int other) {
        List<Stroke> after = new ArrayList<>();
        for (Stroke stroke : strokes) {
            int to = stroke.panel() == panel ? other : stroke.panel() == other ? panel : stroke.panel();
            after.add(new Stroke(moved(stroke.one(), to), moved(stroke.two(), to)));
        }
        return after;
    }

    int exchange(int panel, int other) {
        if (!within(panel, 6) || !within(other, 6)) {
            return NO_SUCH;
        }
        if (panel == other) {
            return NOT_POSSIBLE;
        }
        change();
        strokes = exchanged(panel, other);
        int hand = hands.get(panel);
        hands.set(panel, hands.get(other));
        hands.set(other, hand);
        return loose();
    }

    int takeUp(int panel) {
        if (!within(panel, 6) || panel == 0) {
            return NO_SUCH;
        }
        change();
        int many = 0;
        for (int column = 0; column < 12; column++) {
            End mark = new End(panel - 1, true, column);
            End upper = new End(panel, false, column);
            End lower = new End(panel, true, column);
            if (at(mark) != null && at(upper) == null && at(lower) == null) {
                strokes.add(new Stroke(upper, lower));
                many++;
            }
        }
        return many;
    }

    // ---- lines

    private static boolean meet(Stroke one, Stroke two) {
        for (End end : List.of(one.one(), one.two())) {
            if (end.neighbour() != null && two.has(end.neighbour())) {
                return true;
            }
        }
        return false;
    }

    private List<Set<Stroke>> lines() {
        List<Stroke> ordered = new ArrayList<>(strokes);
        ordered.sort((one, two) -> one.panel() != two.panel()
            ? Integer.compare(one.panel(), two.panel()) : Integer.compare(one.lesser(), two.lesser()));
        List<Set<Stroke>> lines = new ArrayList<>();
        Set<Stroke> seen = new HashSet<>();
        for (Stroke first : ordered) {
            if (seen.contains(first)) {
                continue;
            }
            Set<Stroke> line = new HashSet<>(Set.of(first));
            int before;
            do {
                before = line.size();
                for (Stroke stroke : ordered) {
                    if (line.stream().anyMatch(member -> meet(member, stroke))) {
                        line.add(stroke);
                    }
                }
            } while (line.size() > before);
            seen.addAll(line);
            lines.add(line);
        }
        return lines;
    }

    private List<Integer> outerEnds(Set<Stroke> line) {
        List<Integer> outer = new ArrayList<>();
        for (Stroke stroke : line) {
            for (End end : List.of(stroke.one(), stroke.two())) {
                if (how(end) != 1) {
                    outer.add(24 * end.panel() + end.number());
                }
            }
        }
        outer.sort(null);
        return outer;
    }

    private int numberOfLine(Stroke stroke) {
        List<Set<Stroke>> lines = lines();
        for (int line = 0; line < lines.size(); line++) {
            if (lines.get(line).contains(stroke)) {
                return line;
            }
        }
        throw new IllegalStateException("a stroke without a line");
    }

    private int loops(List<Set<Stroke>> lines) {
        int many = 0;
        for (Set<Stroke> line : lines) {
            many += outerEnds(line).isEmpty() ? 1 : 0;
        }
        return many;
    }

    // ---- crossing

    private static List<End> around(int panel) {
        List<End> edge = new ArrayList<>();
        for (int column = 0; column < 12; column++) {
            edge.add(new End(panel, false, column));
        }
        for (int column = 11; column >= 0; column--) {
            edge.add(new End(panel, true, column));
        }
        return edge;
    }

    private static boolean cross(Stroke stroke, Stroke other) {
        List<End> edge = around(stroke.panel());
        int from = edge.indexOf(other.one());
        int to = edge.indexOf(other.two());
        List<End> between = edge.subList(Math.min(from, to) + 1, Math.max(from, to));
        return between.contains(stroke.one()) != between.contains(stroke.two());
    }

    private int crossing(Stroke stroke) {
        int many = 0;
        for (Stroke other : of(stroke.panel())) {
            many += !other.equals(stroke) && cross(stroke, other) ? 1 : 0;
        }
        return many;
    }

    private int pairs(int panel) {
        List<Stroke> here = of(panel);
        int many = 0;
        for (int one = 0; one < here.size(); one++) {
            for (int two = one + 1; two < here.size(); two++) {
                many += cross(here.get(one), here.get(two)) ? 1 : 0;
            }
        }
        return many;
    }

    // ---- what there is

    int end(int panel, int end, int what) {
        if (!within(panel, 6) || !within(end, 24)) {
            return NO_SUCH;
        }
        if (!within(what, 4)) {
            return BAD_VALUE;
        }
        End here = End.of(panel, end);
        if (what == 1) {
            return how(here);
        }
        Stroke stroke = at(here);
        if (stroke == null) {
            return NONE;
        }
        return what == 0 ? far(stroke, here).number() : what == 2 ? numberOfLine(stroke) : crossing(stroke);
    }

    private int columns(int panel, boolean lower) {
        int set = 0;
        for (int column = 0; column < 12; column++) {
            set += at(new End(panel, lower, column)) != null ? 1 << column : 0;
        }
        return set;
    }

    private int looseOf(int panel) {
        int many = 0;
        for (int end = 0; end < 24; end++) {
            many += how(End.of(panel, end)) == 2 ? 1 : 0;
        }
        return many;
    }

    private int linesOf(int panel) {
        int many = 0;
        for (Set<Stroke> line : lines()) {
            many += line.stream().anyMatch(stroke -> stroke.panel() == panel) ? 1 : 0;
        }
        return many;
    }

    int panel(int panel, int what) {
        if (!within(panel, 6)) {
            return NO_SUCH;
        }
        return switch (what) {
            case 0 -> of(panel).size();
            case 1 -> hands.get(panel);
            case 2 -> columns(panel, false);
            case 3 -> columns(panel, true);
            case 4 -> pairs(panel);
            case 5 -> looseOf(panel);
            case 6 -> linesOf(panel);
            case 7 -> (int) of(panel).stream().filter(s -> s.one().lower() != s.two().lower()).count();
            default -> BAD_VALUE;
        };
    }

    /** The columns of a fold with a stroke above or not, and below or not, as asked. */
    private int columnsOf(int fold, boolean above, boolean below) {
        int set = 0;
        for (int column = 0; column < 12; column++) {
            boolean up = at(new End(fold, true, column)) != null;
            boolean down = at(new End(fold + 1, false, column)) != null;
            set += up == above && down == below ? 1 << column : 0;
        }
        return set;
    }

    int fold(int fold, int what) {
        if (!within(fold, 5)) {
            return NO_SUCH;
        }
        return switch (what) {
            case 0 -> columnsOf(fold, true, true) + columnsOf(fold, true, false);
            case 1 -> columnsOf(fold, true, true);
            case 2 -> columnsOf(fold, true, false);
            case 3 -> columnsOf(fold, false, true);
            default -> BAD_VALUE;
        };
    }

    private int faults(int hand, boolean above) {
        int many = 0;
        for (int fold = 0; fold < 5; fold++) {
            many += hands.get(fold + 1) == hand ? Integer.bitCount(columnsOf(fold, above, !above)) : 0;
        }
        return many;
    }

    int hand(int hand, int what) {
        if (!within(hand, 6)) {
            return NO_SUCH;
        }
        int set = 0;
        int many = 0;
        for (int panel = 0; panel < 6; panel++) {
            if (hands.get(panel) == hand) {
                set |= 1 << panel;
                many += of(panel).size();
            }
        }
        return switch (what) {
            case 0 -> set;
            case 1 -> many;
            case 2 -> faults(hand, true) + faults(hand, false);
            case 3 -> faults(hand, false);
            default -> BAD_VALUE;
        };
    }

    int line(int number, int what) {
        List<Set<Stroke>> lines = lines();
        if (!within(number, lines.size())) {
            return NO_SUCH;
        }
        Set<Stroke> line = lines.get(number);
        List<Integer> outer = outerEnds(line);
        int panels = line.stream().mapToInt(stroke -> 1 << stroke.panel()).reduce(0, (a, b) -> a | b);
        int drawn = line.stream().mapToInt(stroke -> 1 << hands.get(stroke.panel())).reduce(0, (a, b) -> a | b);
        return switch (what) {
            case 0 -> line.size();
            case 1 -> outer.isEmpty() ? 1 : 0;
            case 2 -> panels;
            case 3 -> drawn;
            case 4 -> outer.isEmpty() ? NONE : outer.get(0);
            case 5 -> outer.isEmpty() ? NONE : outer.get(1);
            default -> BAD_VALUE;
        };
    }

    private int downAll() {
        int many = 0;
        for (Set<Stroke> line : lines()) {
            List<Integer> outer = outerEnds(line);
            many += !outer.isEmpty() && outer.get(0) <= 11 && outer.get(1) >= 5 * 24 + 12 ? 1 : 0;
        }
        return many;
    }

    private int foldFaults() {
        int many = 0;
        for (int hand = 0; hand < 6; hand++) {
            many += hand(hand, 2);
        }
        return many;
    }

    int count(int what) {
        return switch (what) {
            case 0 -> strokes.size();
            case 1 -> lines().size();
            case 2 -> loops(lines());
            case 3 -> loose();
            case 4 -> endsThatAre(3);
            case 5 -> foldFaults();
            case 6 -> pairs(0) + pairs(1) + pairs(2) + pairs(3) + pairs(4) + pairs(5);
            case 7 -> lines().stream().mapToInt(Set::size).max().orElse(0);
            case 8 -> downAll();
            case 9 -> pad.length();
            case 10 -> history.size();
            default -> BAD_VALUE;
        };
    }

    // ---- what if

    private int looseWith(List<Stroke> others) {
        List<Stroke> kept = strokes;
        strokes = others;
        int many = loose();
        strokes = kept;
        return many;
    }

    int bestSlide(int panel, int what) {
        if (!within(panel, 6)) {
            return NO_SUCH;
        }
        if (!within(what, 2)) {
            return BAD_VALUE;
        }
        List<int[]> ways = new ArrayList<>();
        for (int columns = -11; columns <= 11; columns++) {
            List<Stroke> after = slid(panel, columns);
            if (after != null) {
                ways.add(new int[] {looseWith(after), Math.abs(columns), columns});
            }
        }
        ways.sort((a, b) -> java.util.Arrays.compare(a, b));
        return what == 0 ? 20 + ways.get(0)[2] : ways.get(0)[0];
    }

    int bestExchange(int what) {
        if (!within(what, 2)) {
            return BAD_VALUE;
        }
        List<int[]> ways = new ArrayList<>();
        for (int one = 0; one < 6; one++) {
            for (int two = one + 1; two < 6; two++) {
                ways.add(new int[] {looseWith(exchanged(one, two)), one, two});
            }
        }
        ways.sort((a, b) -> java.util.Arrays.compare(a, b));
        return what == 0 ? 10 * ways.get(0)[1] + ways.get(0)[2] : ways.get(0)[0];
    }

    int ifTurned(int panel, int how, int what) {
        if (!within(panel, 6)) {
            return NO_SUCH;
        }
        if (!within(how, 3) || !within(what, 3)) {
            return BAD_VALUE;
        }
        List<Stroke> kept = strokes;
        strokes = turned(panel, how);
        int answer = what == 0 ? loose() : what == 1 ? lines().size() : loops(lines());
        strokes = kept;
        return answer;
    }

    // ---- texts

    private static Stroke read(int panel, String part) {
        End one = new End(panel, part.charAt(1) == '_', part.charAt(0) - 'a');
        End two = new End(panel, part.charAt(1) != '^', part.charAt(2) - 'a');
        return new Stroke(one, two);
    }

    static boolean isText(String text) {
        Set<End> ends = new HashSet<>();
        for (String part : text.split(";", -1)) {
            if (!part.matches("[a-l][|^_][a-l]")) {
                return false;
            }
            Stroke stroke = read(0, part);
            boolean sideways = stroke.one().lower() == stroke.two().lower();
            if (sideways && stroke.one().column() >= stroke.two().column()) {
                return false;
            }
            if (!ends.add(stroke.one()) || !ends.add(stroke.two())) {
                return false;
            }
        }
        return true;
    }

    /** Whether some text begins so; if one does, then one that ends with the stroke that is begun. */
    private static boolean canGoOn(String begun) {
        String next = switch (begun.length() % 4) {
            case 0, 2 -> "abcdefghijkl";
            case 1 -> "|^_";
            default -> "";
        };
        if (next.isEmpty()) {
            return isText(begun);
        }
        for (char sign : next.toCharArray()) {
            if (canGoOn(begun + sign)) {
                return true;
            }
        }
        return false;
    }

    static int faultOf(String text) {
        for (int at = 0; at < text.length(); at++) {
            if (!canGoOn(text.substring(0, at + 1))) {
                return at;
            }
        }
        return isText(text) ? NONE : text.length();
    }

    int put(long characters) {
        StringBuilder more = new StringBuilder();
        boolean ended = false;
        for (int shift = 0; shift < 64; shift += 8) {
            int code = (int) (characters >>> shift & 0xFF);
            if (code == 0) {
                ended = true;
            } else if (ended || code < 33 || code > 126) {
                return BAD_VALUE;
            } else {
                more.insert(0, (char) code);
            }
        }
        if (more.length() == 0) {
            return BAD_VALUE;
        }
        if (pad.length() + more.length() > 60) {
            return TOO_MANY;
        }
        pad += more;
        return pad.length();
    }

    int wipe() {
        int length = pad.length();
        pad = "";
        return length;
    }

    int fault() {
        return faultOf(pad);
    }

    // ---- undo, saving

    int undo() {
        if (history.isEmpty()) {
            return NOT_POSSIBLE;
        }
        go(history.removeLast());
        return history.size();
    }

    int save(int slot) {
        if (!within(slot, 2)) {
            return BAD_VALUE;
        }
        slots[slot] = now();
        return strokes.size();
    }

    int restore(int slot) {
        if (!within(slot, 2)) {
            return BAD_VALUE;
        }
        if (slots[slot] == null) {
            return NOT_POSSIBLE;
        }
        change();
        go(slots[slot]);
        return strokes.size();
    }
}
