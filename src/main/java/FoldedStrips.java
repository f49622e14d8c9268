import java.util.Arrays;

/**
 * A figure that several hands draw on one folded strip. shared/DOC.md says what each call promises.
 *
 * Inside, an end is known by its place on the strip: ENDS times its panel and its number there, together.
 */
public final class FoldedStrips {
    public static final int NO_SUCH = -1, BAD_VALUE = -2, BAD_TEXT = -3, TOO_MANY = -4, NOT_POSSIBLE = -5, NONE = -6;

    private static final int PANELS = 6;
    private static final int FOLDS = PANELS - 1;
    private static final int HANDS = 6;
    private static final int COLUMNS = 12;
    private static final int ENDS = 2 * COLUMNS;
    private static final int PLACES = PANELS * ENDS;
    private static final int MOST_STROKES = PLACES / 2;
    private static final int LOWEST_EDGE = 2 * PANELS - 1;
    private static final int SLOTS = 2;
    private static final int MOST_STATES = 6;
    private static final int PAD_ROOM = 60;
    private static final int MOST_AT_ONCE = 8;
    private static final int STAYS = 20;
    private static final int NOWHERE = -1;

    private static final int MIRRORED = 0;
    private static final int TURNED_OVER = 1;
    private static final int TURNED_BOTH_WAYS = 2;

    private static final int WITHOUT_STROKE = 0;
    private static final int MEETS = 1;
    private static final int LOOSE = 2;
    private static final int FREE = 3;

    private final Strip strip = new Strip();
    private final Strip trial = new Strip();
    private final Lines lines = new Lines();
    private final Pad pad = new Pad();
    private final History history = new History();
    private final Slots slots = new Slots();

    public FoldedStrips() {
    }

    // ---- changes

    public int draw(int panel, int hand) {
        if (!isPanel(panel)) {
            return NO_SUCH;
        }
        if (!isHand(hand)) {
            return BAD_VALUE;
        }
        if (pad.firstFault() != NONE) {
            return BAD_TEXT;
        }
        history.remember(strip);
        strip.erase(panel);
        strip.giveTo(panel, hand);
        pad.drawOnto(strip, panel);
        pad.makeEmpty();
        return strip.strokesIn(panel);
    }

    public int join(int panel, int end, int other) {
        if (!isPanel(panel) || !isEnd(end) || !isEnd(other)) {
            return NO_SUCH;
        }
        if (end == other) {
            return BAD_VALUE;
        }
        if (strip.hasStroke(placeOf(panel, end)) || strip.hasStroke(placeOf(panel, other))) {
            return NOT_POSSIBLE;
        }
        history.remember(strip);
        strip.link(panel, end, other);
        return strip.strokesIn(panel);
    }

    public int rub(int panel, int end) {
        if (!isPanel(panel) || !isEnd(end)) {
            return NO_SUCH;
        }
        int other = strip.otherEnd(placeOf(panel, end));
        if (other == NOWHERE) {
            return NOT_POSSIBLE;
        }
        history.remember(strip);
        strip.unlink(panel, end, other);
        return other;
    }

    public int clear(int panel) {
        if (!isPanel(panel)) {
            return NO_SUCH;
        }
        int strokes = strip.strokesIn(panel);
        history.remember(strip);
        strip.erase(panel);
        return strokes;
    }

    public int slide(int panel, int columns) {
        if (!isPanel(panel)) {
            return NO_SUCH;
        }
        if (columns <= -COLUMNS || columns >= COLUMNS || columns == 0) {
            return BAD_VALUE;
        }
        if (!strip.canShift(panel, columns)) {
            return NOT_POSSIBLE;
        }
        history.remember(strip);
        strip.shift(panel, columns);
        return strip.looseEnds();
    }

    public int turn(int panel, int how) {
        if (!isPanel(panel)) {
            return NO_SUCH;
        }
        if (!isTurn(how)) {
            return BAD_VALUE;
        }
        history.remember(strip);
        strip.flip(panel, how);
        return strip.looseEnds();
    }

    public int exchange(int panel, int other) {
        if (!isPanel(panel) || !isPanel(other)) {
            return NO_SUCH;
        }
        if (panel == other) {
            return NOT_POSSIBLE;
        }
        history.remember(strip);
        strip.swap(panel, other);
        return strip.looseEnds();
    }

    public int takeUp(int panel) {
        if (!isPanel(panel) || panel == 0) {
            return NO_SUCH;
        }
        history.remember(strip);
        return strip.continueMarks(panel);
    }

    // ---- what there is; nothing changes

    public int end(int panel, int end, int what) {
        if (!isPanel(panel) || !isEnd(end)) {
            return NO_SUCH;
        }
        if (what < 0 || what > 3) {
            return BAD_VALUE;
        }
        int place = placeOf(panel, end);
        if (what == 1) {
            return strip.howEndIs(place);
        }
        if (!strip.hasStroke(place)) {
            return NONE;
        }
        switch (what) {
            case 0:
                return strip.otherEnd(place);
            case 2:
                lines.trace(strip);
                return lines.lineAt(place);
            default:
                return strip.crossingsOf(place);
        }
    }

    public int panel(int panel, int what) {
        if (!isPanel(panel)) {
            return NO_SUCH;
        }
        switch (what) {
            case 0:
                return strip.strokesIn(panel);
            case 1:
                return strip.handOf(panel);
            case 2:
                return strip.edgeSet(upperEdge(panel));
            case 3:
                return strip.edgeSet(lowerEdge(panel));
            case 4:
                return strip.crossingPairsIn(panel);
            case 5:
                return strip.looseEndsIn(panel);
            case 6:
                lines.trace(strip);
                return lines.linesIn(panel);
            case 7:
                return strip.strokesDown(panel);
            default:
                return BAD_VALUE;
        }
    }

    public int fold(int fold, int what) {
        if (!isFold(fold)) {
            return NO_SUCH;
        }
        switch (what) {
            case 0:
                return strip.marksAt(fold);
            case 1:
                return strip.marksAt(fold) & strip.startsAt(fold);
            case 2:
                return strip.missedMarksAt(fold);
            case 3:
                return strip.unmarkedStartsAt(fold);
            default:
                return BAD_VALUE;
        }
    }

    public int hand(int hand, int what) {
        if (!isHand(hand)) {
            return NO_SUCH;
        }
        switch (what) {
            case 0:
                return strip.panelsOf(hand);
            case 1:
                return strip.strokesOf(hand);
            case 2:
                return strip.missedMarksOf(hand) + strip.unmarkedStartsOf(hand);
            case 3:
                return strip.unmarkedStartsOf(hand);
            default:
                return BAD_VALUE;
        }
    }

    public int line(int line, int what) {
        lines.trace(strip);
        if (line < 0 || line >= lines.size()) {
            return NO_SUCH;
        }
        switch (what) {
            case 0:
                return lines.strokesOf(line);
            case 1:
                return lines.isLoop(line) ? 1 : 0;
            case 2:
                return lines.panelSetOf(line);
            case 3:
                return lines.handSetOf(line);
            case 4:
                return lines.lesserEndOf(line);
            case 5:
                return lines.greaterEndOf(line);
            default:
                return BAD_VALUE;
        }
    }

    public int count(int what) {
        switch (what) {
            case 0:
                return strip.strokes();
            case 3:
            case 5:
                // A column of a fold is a fault just when one of its two ends is loose.
                return strip.looseEnds();
            case 4:
                return strip.freeEnds();
            case 6:
                return strip.crossingPairs();
            case 9:
                return pad.length();
            case 10:
                return history.size();
            default:
                lines.trace(strip);
                return countOfLines(what);
        }
    }

    private int countOfLines(int what) {
        switch (what) {
            case 1:
                return lines.size();
            case 2:
                return lines.loops();
            case 7:
                return lines.longest();
            case 8:
                return lines.fromTopToBottom();
            default:
                return BAD_VALUE;
        }
    }

    // ---- what if; nothing changes

    public int bestSlide(int panel, int what) {
        if (!isPanel(panel)) {
            return NO_SUCH;
        }
        if (what != 0 && what != 1) {
            return BAD_VALUE;
        }
        int best = 0;
        int fewest = strip.looseEnds();
        for (int far = 1; far < COLUMNS; far++) {
            for (int side = -1; side <= 1; side += 2) {
                int columns = side * far;
                if (strip.canShift(panel, columns)) {
                    int loose = looseEndsIfSlid(panel, columns);
                    if (loose < fewest) {
                        best = columns;
                        fewest = loose;
                    }
                }
            }
        }
        return what == 0 ? STAYS + best : fewest;
    }

    private int looseEndsIfSlid(int panel, int columns) {
        trial.copyFrom(strip);
        trial.shift(panel, columns);
        return trial.looseEnds();
    }

    public int bestExchange(int what) {
        if (what != 0 && what != 1) {
            return BAD_VALUE;
        }
        int best = 0;
        int fewest = PLACES + 1;
        for (int lower = 0; lower < PANELS; lower++) {
            for (int greater = lower + 1; greater < PANELS; greater++) {
                int loose = looseEndsIfExchanged(lower, greater);
                if (loose < fewest) {
                    best = 10 * lower + greater;
                    fewest = loose;
                }
            }
        }
        return what == 0 ? best : fewest;
    }

    private int looseEndsIfExchanged(int panel, int other) {
        trial.copyFrom(strip);
        trial.swap(panel, other);
        return trial.looseEnds();
    }

    public int ifTurned(int panel, int how, int what) {
        if (!isPanel(panel)) {
            return NO_SUCH;
        }
        if (!isTurn(how) || what < 0 || what > 2) {
            return BAD_VALUE;
        }
        trial.copyFrom(strip);
        trial.flip(panel, how);
        if (what == 0) {
            return trial.looseEnds();
        }
        lines.trace(trial);
        return what == 1 ? lines.size() : lines.loops();
    }

    // ---- texts

    public int put(long characters) {
        int many = Pad.charactersIn(characters);
        if (many == 0) {
            return BAD_VALUE;
        }
        if (pad.length() + many > PAD_ROOM) {
            return TOO_MANY;
        }
        pad.append(characters, many);
        return pad.length();
    }

    public int wipe() {
        int length = pad.length();
        pad.makeEmpty();
        return length;
    }

    public int fault() {
        return pad.firstFault();
    }

    // ---- undo, saving

    public int undo() {
        if (history.size() == 0) {
            return NOT_POSSIBLE;
        }
        history.goBack(strip);
        return history.size();
    }

    public int save(int slot) {
        if (!isSlot(slot)) {
            return BAD_VALUE;
        }
        slots.keep(slot, strip);
        return strip.strokes();
    }

    public int restore(int slot) {
        if (!isSlot(slot)) {
            return BAD_VALUE;
        }
        if (!slots.isKept(slot)) {
            return NOT_POSSIBLE;
        }
        history.remember(strip);
        slots.fetch(slot, strip);
        return strip.strokes();
    }

    // ---- what the numbers of arguments mean

    private static boolean isPanel(int panel) {
        return panel >= 0 && panel < PANELS;
    }

    private static boolean isEnd(int end) {
        return end >= 0 && end < ENDS;
    }

    private static boolean isPlace(int place) {
        return place >= 0 && place < PLACES;
    }

    private static boolean isFold(int fold) {
        return fold >= 0 && fold < FOLDS;
    }

    private static boolean isHand(int hand) {
        return hand >= 0 && hand < HANDS;
    }

    private static boolean isTurn(int how) {
        return how == MIRRORED || how == TURNED_OVER || how == TURNED_BOTH_WAYS;
    }

    private static boolean isSlot(int slot) {
        return slot >= 0 && slot < SLOTS;
    }

    private static int placeOf(int panel, int end) {
        return panel * ENDS + end;
    }

    private static int panelOf(int place) {
        return place / ENDS;
    }

    private static int upperEdge(int panel) {
        return 2 * panel;
    }

    private static int lowerEdge(int panel) {
        return 2 * panel + 1;
    }

    /** The place across the fold, NOWHERE at the top and at the bottom of the strip. */
    private static int neighbourOf(int place) {
        if (!isPlace(place)) {
            return NOWHERE;
        }
        boolean upper = place % ENDS < COLUMNS;
        int across = upper ? place - COLUMNS : place + COLUMNS;
        return isPlace(across) ? across : NOWHERE;
    }

    /** All strokes with the hands of their panels: what is saved and what is undone. */
    private static final class Strip {
        // For each place the other end of its stroke, as a number within the panel, so that panels move as they are.
        private final int[] others = new int[PLACES];
        private final int[] hands = new int[PANELS];
        private final int[] before = new int[ENDS];

        Strip() {
            for (int place = 0; place < PLACES; place++) {
                others[place] = NOWHERE;
            }
            for (int panel = 0; panel < PANELS; panel++) {
                hands[panel] = panel;
            }
        }

        void copyFrom(Strip source) {
            System.arraycopy(source.others, 0, others, 0, PLACES);
            System.arraycopy(source.hands, 0, hands, 0, PANELS);
        }

        // ---- looking at ends

        int otherEnd(int place) {
            return isPlace(place) ? others[place] : NOWHERE;
        }

        boolean hasStroke(int place) {
            return isPlace(place) && others[place] != NOWHERE;
        }

        int otherPlace(int place) {
            int other = otherEnd(place);
            return other == NOWHERE ? NOWHERE : placeOf(panelOf(place), other);
        }

        int howEndIs(int place) {
            if (!hasStroke(place)) {
                return WITHOUT_STROKE;
            }
            int neighbour = neighbourOf(place);
            if (neighbour == NOWHERE) {
                return FREE;
            }
            return hasStroke(neighbour) ? MEETS : LOOSE;
        }

        /** The columns of an edge that have strokes; edges go from the top of the strip to its bottom. */
        int edgeSet(int edge) {
            int set = 0;
            for (int column = 0; column < COLUMNS; column++) {
                if (hasStroke(edge * COLUMNS + column)) {
                    set |= 1 << column;
                }
            }
            return set;
        }

        // ---- changing strokes

        void link(int panel, int end, int other) {
            if (isPanel(panel) && isEnd(end) && isEnd(other)) {
                others[placeOf(panel, end)] = other;
                others[placeOf(panel, other)] = end;
            }
        }

        void unlink(int panel, int end, int other) {
            if (isPanel(panel) && isEnd(end) && isEnd(other)) {
                others[placeOf(panel, end)] = NOWHERE;
                others[placeOf(panel, other)] = NOWHERE;
            }
        }

        void erase(int panel) {
            if (!isPanel(panel)) {
                return;
            }
            for (int end = 0; end < ENDS; end++) {
                others[placeOf(panel, end)] = NOWHERE;
            }
        }

        boolean canShift(int panel, int columns) {
            int set = edgeSet(upperEdge(panel)) | edgeSet(lowerEdge(panel));
            for (int column = 0; column < COLUMNS; column++) {
                boolean beyond = column + columns < 0 || column + columns >= COLUMNS;
                if (beyond && (set & (1 << column)) != 0) {
                    return false;
                }
            }
            return true;
        }

        /** Only for columns that canShift allows. */
        void shift(int panel, int columns) {
            liftOff(panel);
            for (int end = 0; end < ENDS; end++) {
                if (before[end] != NOWHERE) {
                    link(panel, end + columns, before[end] + columns);
                }
            }
        }

        void flip(int panel, int how) {
            liftOff(panel);
            for (int end = 0; end < ENDS; end++) {
                if (before[end] != NOWHERE) {
                    link(panel, turnedEnd(end, how), turnedEnd(before[end], how));
                }
            }
        }

        private void liftOff(int panel) {
            for (int end = 0; end < ENDS; end++) {
                before[end] = otherEnd(placeOf(panel, end));
            }
            erase(panel);
        }

        private static int turnedEnd(int end, int how) {
            boolean upper = end < COLUMNS;
            int column = upper ? end : end - COLUMNS;
            if (how != TURNED_OVER) {
                column = COLUMNS - 1 - column;
            }
            if (how != MIRRORED) {
                upper = !upper;
            }
            return upper ? column : COLUMNS + column;
        }

        void swap(int panel, int other) {
            if (!isPanel(panel) || !isPanel(other)) {
                return;
            }
            for (int end = 0; end < ENDS; end++) {
                int kept = others[placeOf(panel, end)];
                others[placeOf(panel, end)] = others[placeOf(other, end)];
                others[placeOf(other, end)] = kept;
            }
            int hand = hands[panel];
            hands[panel] = hands[other];
            hands[other] = hand;
        }

        int continueMarks(int panel) {
            int open = missedMarksAt(panel - 1) & ~edgeSet(lowerEdge(panel));
            for (int column = 0; column < COLUMNS; column++) {
                if ((open & (1 << column)) != 0) {
                    link(panel, column, COLUMNS + column);
                }
            }
            return Integer.bitCount(open);
        }

        // ---- hands

        void giveTo(int panel, int hand) {
            if (isPanel(panel)) {
                hands[panel] = hand;
            }
        }

        int handOf(int panel) {
            return isPanel(panel) ? hands[panel] : NOWHERE;
        }

        int panelsOf(int hand) {
            int set = 0;
            for (int panel = 0; panel < PANELS; panel++) {
                if (hands[panel] == hand) {
                    set |= 1 << panel;
                }
            }
            return set;
        }

        int strokesOf(int hand) {
            int sum = 0;
            for (int panel = 0; panel < PANELS; panel++) {
                if (hands[panel] == hand) {
                    sum += strokesIn(panel);
                }
            }
            return sum;
        }

        int missedMarksOf(int hand) {
            int sum = 0;
            for (int fold = 0; fold < FOLDS; fold++) {
                if (handOf(fold + 1) == hand) {
                    sum += Integer.bitCount(missedMarksAt(fold));
                }
            }
            return sum;
        }

        int unmarkedStartsOf(int hand) {
            int sum = 0;
            for (int fold = 0; fold < FOLDS; fold++) {
                if (handOf(fold + 1) == hand) {
                    sum += Integer.bitCount(unmarkedStartsAt(fold));
                }
            }
            return sum;
        }

        // ---- folds

        int marksAt(int fold) {
            return edgeSet(lowerEdge(fold));
        }

        int startsAt(int fold) {
            return edgeSet(upperEdge(fold + 1));
        }

        int missedMarksAt(int fold) {
            return marksAt(fold) & ~startsAt(fold);
        }

        int unmarkedStartsAt(int fold) {
            return startsAt(fold) & ~marksAt(fold);
        }

        // ---- counting ends and strokes

        int strokesIn(int panel) {
            int ends = Integer.bitCount(edgeSet(upperEdge(panel))) + Integer.bitCount(edgeSet(lowerEdge(panel)));
            return ends / 2;
        }

        int strokes() {
            int sum = 0;
            for (int panel = 0; panel < PANELS; panel++) {
                sum += strokesIn(panel);
            }
            return sum;
        }

        int strokesDown(int panel) {
            int sum = 0;
            for (int column = 0; column < COLUMNS; column++) {
                if (otherEnd(placeOf(panel, column)) >= COLUMNS) {
                    sum++;
                }
            }
            return sum;
        }

        int looseEnds() {
            int sum = 0;
            for (int fold = 0; fold < FOLDS; fold++) {
                sum += Integer.bitCount(marksAt(fold) ^ startsAt(fold));
            }
            return sum;
        }

        int looseEndsIn(int panel) {
            int sum = 0;
            for (int end = 0; end < ENDS; end++) {
                if (howEndIs(placeOf(panel, end)) == LOOSE) {
                    sum++;
                }
            }
            return sum;
        }

        int freeEnds() {
            return Integer.bitCount(edgeSet(0)) + Integer.bitCount(edgeSet(LOWEST_EDGE));
        }

        // ---- crossing

        /** Where an end comes when the edge of the panel is gone around. */
        private static int aroundEdge(int end) {
            return end < COLUMNS ? end : ENDS - 1 - (end - COLUMNS);
        }

        private static boolean isBetween(int end, int one, int two) {
            int at = aroundEdge(end);
            int from = Math.min(aroundEdge(one), aroundEdge(two));
            int to = Math.max(aroundEdge(one), aroundEdge(two));
            return from < at && at < to;
        }

        /** How many strokes of the panel cross the stroke of this place. */
        int crossingsOf(int place) {
            int panel = panelOf(place);
            int one = place % ENDS;
            int two = otherEnd(place);
            int sum = 0;
            for (int end = 0; end < ENDS; end++) {
                int other = otherEnd(placeOf(panel, end));
                boolean lesserOfItsStroke = end < other;
                if (lesserOfItsStroke && isBetween(end, one, two) != isBetween(other, one, two)) {
                    sum++;
                }
            }
            return sum;
        }

        int crossingPairsIn(int panel) {
            int sum = 0;
            for (int end = 0; end < ENDS; end++) {
                if (end < otherEnd(placeOf(panel, end))) {
                    sum += crossingsOf(placeOf(panel, end));
                }
            }
            // Each pair was met from both of its strokes.
            return sum / 2;
        }

        int crossingPairs() {
            int sum = 0;
            for (int panel = 0; panel < PANELS; panel++) {
                sum += crossingPairsIn(panel);
            }
            return sum;
        }
    }

    /** The lines of a strip as they were when it was traced last. */
    private static final class Lines {
        private int size = 0;
        private final int[] lineOf = new int[PLACES];
        private final int[] strokes = new int[MOST_STROKES];
        private final int[] panelSets = new int[MOST_STROKES];
        private final int[] handSets = new int[MOST_STROKES];
        private final int[] lesserEnds = new int[MOST_STROKES];
        private final int[] greaterEnds = new int[MOST_STROKES];
        private final boolean[] looped = new boolean[MOST_STROKES];

        void trace(Strip strip) {
            size = 0;
            Arrays.fill(lineOf, NOWHERE);
            for (int place = 0; place < PLACES; place++) {
                if (strip.hasStroke(place) && lineOf[place] == NOWHERE) {
                    addLine(strip, place);
                }
            }
        }

        private void addLine(Strip strip, int start) {
            int line = size;
            if (!isIndex(line)) {
                return;
            }
            size++;
            strokes[line] = 0;
            panelSets[line] = 0;
            handSets[line] = 0;
            int ahead = follow(strip, line, start);
            int behind = follow(strip, line, neighbourOf(start));
            if (behind == NOWHERE) {
                behind = start;
            }
            looped[line] = neighbourOf(ahead) == start;
            lesserEnds[line] = looped[line] ? NONE : Math.min(ahead, behind);
            greaterEnds[line] = looped[line] ? NONE : Math.max(ahead, behind);
        }

        /** Numbers the strokes from a place on; returns where the last one ends, NOWHERE if there was no new one. */
        private int follow(Strip strip, int line, int start) {
            int at = start;
            int last = NOWHERE;
            for (int step = 0; step < MOST_STROKES; step++) {
                if (!strip.hasStroke(at) || lineOf[at] != NOWHERE) {
                    return last;
                }
                last = strip.otherPlace(at);
                take(strip, line, at, last);
                at = neighbourOf(last);
            }
            return last;
        }

        private void take(Strip strip, int line, int place, int other) {
            if (!isIndex(line) || !isPlace(place) || !isPlace(other)) {
                return;
            }
            lineOf[place] = line;
            lineOf[other] = line;
            strokes[line]++;
            panelSets[line] |= 1 << panelOf(place);
            handSets[line] |= 1 << strip.handOf(panelOf(place));
        }

        private static boolean isIndex(int line) {
            return line >= 0 && line < MOST_STROKES;
        }

        int size() {
            return size;
        }

        int lineAt(int place) {
            return isPlace(place) ? lineOf[place] : NOWHERE;
        }

        int strokesOf(int line) {
            return isIndex(line) ? strokes[line] : 0;
        }

        boolean isLoop(int line) {
            return isIndex(line) && looped[line];
        }

        int panelSetOf(int line) {
            return isIndex(line) ? panelSets[line] : 0;
        }

        int handSetOf(int line) {
            return isIndex(line) ? handSets[line] : 0;
        }

        int lesserEndOf(int line) {
            return isIndex(line) ? lesserEnds[line] : NONE;
        }

        int greaterEndOf(int line) {
            return isIndex(line) ? greaterEnds[line] : NONE;
        }

        int linesIn(int panel) {
            int sum = 0;
            for (int line = 0; line < size; line++) {
                if ((panelSetOf(line) & (1 << panel)) != 0) {
                    sum++;
                }
            }
            return sum;
        }

        int loops() {
            int sum = 0;
            for (int line = 0; line < size; line++) {
                if (isLoop(line)) {
                    sum++;
                }
            }
            return sum;
        }

        int longest() {
            int most = 0;
            for (int line = 0; line < size; line++) {
                most = Math.max(most, strokesOf(line));
            }
            return most;
        }

        int fromTopToBottom() {
            int sum = 0;
            for (int line = 0; line < size; line++) {
                boolean fromTop = !isLoop(line) && lesserEndOf(line) < COLUMNS;
                if (fromTop && greaterEndOf(line) >= LOWEST_EDGE * COLUMNS) {
                    sum++;
                }
            }
            return sum;
        }
    }

    /** A text of strokes; each stroke takes three characters, and a semicolon stands ahead of all but the first. */
    private static final class Pad {
        private static final int STEP = 4;
        private static final int UPPER_ENDS = (1 << COLUMNS) - 1;
        private static final int LOWER_ENDS = UPPER_ENDS << COLUMNS;

        private final char[] text = new char[PAD_ROOM];
        private int length = 0;

        int length() {
            return length;
        }

        void makeEmpty() {
            length = 0;
        }

        /** How many characters a number holds, 0 if it holds none or is not well made. */
        static int charactersIn(long characters) {
            long rest = characters;
            int many = 0;
            for (int at = 0; at < MOST_AT_ONCE; at++) {
                int code = (int) (rest & 255);
                if (code == 0) {
                    return rest == 0 ? many : 0;
                }
                if (code < 33 || code > 126) {
                    return 0;
                }
                many++;
                rest >>>= 8;
            }
            return many;
        }

        void append(long characters, int many) {
            if (many < 0 || length + many > PAD_ROOM) {
                return;
            }
            long rest = characters;
            for (int at = length + many - 1; at >= length; at--) {
                text[at] = (char) (rest & 255);
                rest >>>= 8;
            }
            length += many;
        }

        private char charAt(int at) {
            return at >= 0 && at < length ? text[at] : ' ';
        }

        private int columnAt(int at) {
            int column = charAt(at) - 'a';
            return column >= 0 && column < COLUMNS ? column : NOWHERE;
        }

        int firstFault() {
            int taken = 0;
            for (int at = 0; at < length; at++) {
                if (!canStand(at, taken)) {
                    return at;
                }
                if (at % STEP == 2) {
                    taken |= (1 << firstEnd(at - 2)) | (1 << secondEnd(at - 2));
                }
            }
            return length % STEP == 3 ? NONE : length;
        }

        /** Whether the character can stand behind the ones before it, whose strokes have taken these ends. */
        private boolean canStand(int at, int taken) {
            switch (at % STEP) {
                case 0:
                    return canBegin(columnAt(at), taken);
                case 1:
                    return canGoOn(columnAt(at - 1), charAt(at), taken);
                case 2:
                    return canClose(at, taken);
                default:
                    return charAt(at) == ';' && taken != (UPPER_ENDS | LOWER_ENDS);
            }
        }

        private static boolean canBegin(int column, int taken) {
            return canGoOn(column, '|', taken) || canGoOn(column, '^', taken) || canGoOn(column, '_', taken);
        }

        private static boolean canGoOn(int column, char sign, int taken) {
            if (column == NOWHERE || (taken & (1 << endFrom(column, sign))) != 0) {
                return false;
            }
            return (endsTo(column, sign) & ~taken) != 0;
        }

        private boolean canClose(int at, int taken) {
            if (columnAt(at) == NOWHERE) {
                return false;
            }
            int open = endsTo(columnAt(at - 2), charAt(at - 1)) & ~taken;
            return (open & (1 << secondEnd(at - 2))) != 0;
        }

        /** The end at which a stroke with this sign begins. */
        private static int endFrom(int column, char sign) {
            return sign == '_' ? COLUMNS + column : column;
        }

        /** The ends to which a stroke with this sign may go. */
        private static int endsTo(int column, char sign) {
            int later = UPPER_ENDS & (-2 << column);
            if (sign == '|') {
                return LOWER_ENDS;
            }
            if (sign == '^') {
                return later;
            }
            return sign == '_' ? later << COLUMNS : 0;
        }

        private int firstEnd(int stroke) {
            return endFrom(columnAt(stroke), charAt(stroke + 1));
        }

        private int secondEnd(int stroke) {
            int column = columnAt(stroke + 2);
            return charAt(stroke + 1) == '^' ? column : COLUMNS + column;
        }

        /** Only for a text without a fault. */
        void drawOnto(Strip strip, int panel) {
            for (int stroke = 0; stroke < length; stroke += STEP) {
                strip.link(panel, firstEnd(stroke), secondEnd(stroke));
            }
        }
    }

    /** The states before the latest changes; when it is full, a new one takes the place of the oldest. */
    private static final class History {
        private final Strip[] states = new Strip[MOST_STATES];
        private int size = 0;
        private int next = 0;

        History() {
            for (int at = 0; at < MOST_STATES; at++) {
                states[at] = new Strip();
            }
        }

        int size() {
            return size;
        }

        private Strip stateAt(int at) {
            return at >= 0 && at < MOST_STATES ? states[at] : null;
        }

        void remember(Strip strip) {
            Strip state = stateAt(next);
            if (state == null) {
                return;
            }
            state.copyFrom(strip);
            next = (next + 1) % MOST_STATES;
            size = Math.min(size + 1, MOST_STATES);
        }

        void goBack(Strip strip) {
            int latest = (next + MOST_STATES - 1) % MOST_STATES;
            Strip state = stateAt(latest);
            if (state == null || size == 0) {
                return;
            }
            strip.copyFrom(state);
            next = latest;
            size--;
        }
    }

    private static final class Slots {
        private final Strip[] kept = new Strip[SLOTS];
        private final boolean[] used = new boolean[SLOTS];

        Slots() {
            for (int slot = 0; slot < SLOTS; slot++) {
                kept[slot] = new Strip();
            }
        }

        boolean isKept(int slot) {
            return isSlot(slot) && used[slot] && kept[slot] != null;
        }

        void keep(int slot, Strip strip) {
            if (isSlot(slot) && kept[slot] != null) {
                kept[slot].copyFrom(strip);
                used[slot] = true;
            }
        }

        void fetch(int slot, Strip strip) {
            if (isKept(slot)) {
                strip.copyFrom(kept[slot]);
            }
        }
    }
}
