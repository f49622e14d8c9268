/** The text of the pad and promises 19 to 21 at their edges: put, wipe, fault. */
public final class EdgesOfTextsTest {
    private static final Checks CHECKS = new Checks("EdgesOfTextsTest");
    private static final int BAD_VALUE = -2, BAD_TEXT = -3, TOO_MANY = -4, NONE = -6;
    private static final String LETTERS = "abcdefghijkl";

    public static void main(String[] args) {
        CHECKS.sentence("The pad is a text of at most 60 characters", EdgesOfTextsTest::sixtyCharacters);
        CHECKS.sentence("text = stroke { \";\" stroke }", EdgesOfTextsTest::oneStrokeAndTwelve);
        CHECKS.sentence("stroke = end sign end", EdgesOfTextsTest::allCodesAtAllPlaces);
        CHECKS.sentence("an end is a letter a to l (the columns 0 to 11)", EdgesOfTextsTest::allLetters);
        CHECKS.sentence("the sign is \"|\", \"^\" or \"_\"", EdgesOfTextsTest::threeSigns);
        CHECKS.sentence("with \"^\" and \"_\" the second letter is later in the alphabet than the first one",
            EdgesOfTextsTest::laterLetters);
        CHECKS.sentence("with \"|\" any two letters", EdgesOfTextsTest::anyLettersDown);
        CHECKS.sentence("No end has two strokes in the text", EdgesOfTextsTest::noEndTwice);
        CHECKS.sentence("The fault is the index of the first character that cannot stand at its place",
            EdgesOfTextsTest::theFirstOneIsTold);
        CHECKS.sentence("also of a letter behind which the text could not go on", EdgesOfTextsTest::faultOfALetter);
        CHECKS.sentence("also of a sign behind which the text could not go on", EdgesOfTextsTest::faultOfASign);
        CHECKS.sentence("also of a \";\" behind which the text could not go on", EdgesOfTextsTest::faultOfASemicolon);
        CHECKS.sentence("if there is none and the text ends too early, it is the length of the text",
            EdgesOfTextsTest::tooEarly);
        CHECKS.sentence("also if it is empty", EdgesOfTextsTest::empty);

        CHECKS.sentence("put: its lowest 8 bits are the last character, the next 8 bits the one before",
            EdgesOfTextsTest::lastCharacterLowest);
        CHECKS.sentence("put: 8 bits that are 0 mean that there are no more characters, and everything above them has"
            + " to be 0, too", EdgesOfTextsTest::nothingAboveZeros);
        CHECKS.sentence("put: characters: 1 to 8 characters", EdgesOfTextsTest::oneToEight);
        CHECKS.sentence("put: BAD_VALUE if there is no character", EdgesOfTextsTest::noCharacter);
        CHECKS.sentence("put: BAD_VALUE if a code is not 33 to 126", EdgesOfTextsTest::codes);
        CHECKS.sentence("put: Returns the length of the pad then", EdgesOfTextsTest::lengths);
        CHECKS.sentence("put: TOO_MANY if the pad would be longer than 60", EdgesOfTextsTest::tooMany);
        CHECKS.sentence("put is no change", EdgesOfTextsTest::putIsNoChange);

        CHECKS.sentence("wipe: Empties the pad", EdgesOfTextsTest::wipeEmpties);
        CHECKS.sentence("wipe: returns the length that it had", EdgesOfTextsTest::wipeReturnsTheLength);
        CHECKS.sentence("wipe is no change", EdgesOfTextsTest::wipeIsNoChange);

        CHECKS.sentence("fault: Returns the fault of the pad, NONE if there is none", EdgesOfTextsTest::faultOrNone);
        CHECKS.sentence("fault: the panels' strokes do not count", EdgesOfTextsTest::faultOfTheTextAlone);
        CHECKS.sentence("fault changes nothing", EdgesOfTextsTest::faultChangesNothing);
        CHECKS.close();
    }

    private static void fault(int want, String text) {
        CHECKS.due("fault of " + text, want, Strips.faultOf(text));
    }

    // ---- what a text is

    private static void sixtyCharacters() {
        FoldedStrips strips = new FoldedStrips();
        CHECKS.due("60", 60, Strips.putText(strips, "a|a;".repeat(15)));
        CHECKS.due("61", TOO_MANY, strips.put('a'));
        CHECKS.due("its length", 60, strips.count(9));
        CHECKS.due("its fault", 4, strips.fault());
    }

    private static void oneStrokeAndTwelve() {
        fault(NONE, "a|a");
        for (int strokes = 1; strokes <= 12; strokes++) {
            fault(NONE, Strips.STRAIGHT.substring(0, 4 * strokes - 1));
            fault(NONE, Strips.CROSSED.substring(0, 4 * strokes - 1));
            fault(NONE, Strips.ARCS.substring(0, 4 * strokes - 1));
        }
        fault(3, "a|ab|b");
        fault(0, ";a|a");
        fault(4, "a|a;;b|b");
        fault(4, "a|a;");
    }

    private static boolean standsAt(int place, char code) {
        return switch (place % 4) {
            case 0, 2 -> code >= 'a' && code <= 'l';
            case 1 -> code == '|' || code == '^' || code == '_';
            default -> code == ';';
        };
    }

    private static void allCodesAtAllPlaces() {
        String text = "a|f;b|g;c";
        for (int place = 0; place < 8; place++) {
            for (char code = 33; code <= 126; code++) {
                String begun = text.substring(0, place) + code;
                boolean takenBefore = place > 3 && (code == 'a' || code == 'f');
                if (!standsAt(place, code)) {
                    fault(place, begun);
                    fault(place, begun + text.substring(place + 1));
                } else if (!takenBefore) {
                    fault(place % 4 == 2 ? NONE : place + 1, begun);
                }
            }
        }
    }

    private static void allLetters() {
        for (int column = 0; column < 12; column++) {
            char letter = LETTERS.charAt(column);
            drawn(letter + "|f", column, 17);
            drawn("f|" + letter, 5, 12 + column);
            if (column > 0) {
                drawn("a^" + letter, 0, column);
                drawn("a_" + letter, 12, 12 + column);
            }
            if (column < 11) {
                drawn(letter + "^l", column, 11);
                drawn(letter + "_l", 12 + column, 23);
            }
        }
        for (String text : new String[] {"`|a", "m|a", "A|a", "L|a", "0|a", "1|a", "|a", ";|a", "!|a", "~|a"}) {
            fault(0, text);
        }
        for (char sign : "|^_".toCharArray()) {
            fault(2, "a" + sign + "m");
            fault(2, "a" + sign + "`");
            fault(2, "a" + sign + "B");
            fault(2, "a" + sign + "2");
        }
    }

    private static void drawn(String text, int end, int other) {
        FoldedStrips strips = new FoldedStrips();
        CHECKS.due("draw of " + text, 1, Strips.drawText(strips, 3, 3, text));
        CHECKS.due("the one end of " + text, other, strips.end(3, end, 0));
        CHECKS.due("the other end of " + text, end, strips.end(3, other, 0));
    }

    private static void threeSigns() {
        for (char sign = 33; sign <= 126; sign++) {
            boolean right = sign == '|' || sign == '^' || sign == '_';
            fault(right ? NONE : 1, "a" + sign + "b");
            fault(right ? NONE : 5, "a|a;b" + sign + "c");
        }
    }

    private static void laterLetters() {
        for (int first = 0; first < 12; first++) {
            for (int second = 0; second < 12; second++) {
                int due = second > first ? NONE : first == 11 ? 1 : 2;
                fault(due, LETTERS.charAt(first) + "^" + LETTERS.charAt(second));
                fault(due, LETTERS.charAt(first) + "_" + LETTERS.charAt(second));
            }
        }
    }

    private static void anyLettersDown() {
        for (char first : LETTERS.toCharArray()) {
            for (char second : LETTERS.toCharArray()) {
                fault(NONE, first + "|" + second);
            }
        }
    }

    private static void noEndTwice() {
        // The taken upper end.
        fault(NONE, "d|h;d_e");
        fault(5, "d|h;d|e");
        fault(5, "d|h;d^e");
        fault(6, "d|h;c^d");
        fault(NONE, "d|h;c^e");
        // The taken lower end.
        fault(NONE, "d|h;h|d");
        fault(6, "d|h;h|h");
        fault(5, "d|h;h_i");
        fault(6, "d|h;g_h");
        fault(NONE, "d|h;g_i");
        fault(NONE, "d|h;h^i");
        // Both ends of arcs.
        fault(6, "d^h;c^d");
        fault(6, "d^h;g^h");
        fault(5, "d^h;h^i");
        fault(5, "d^h;d^e");
        fault(NONE, "d^h;d_h");
        fault(NONE, "d^h;c|d;g|h");
        fault(6, "d_h;c|d");
        fault(6, "d_h;c|h");
        fault(NONE, "d_h;d|c;h|g");
        fault(NONE, "d_h;d^h");
        // Not just of the stroke before.
        fault(NONE, "a|a;b|b;c|c;d|d");
        fault(14, "a|a;b|b;c|c;d|a");
        fault(12, "a|a;b|b;c|c;a|d");
    }

    // ---- which character is the fault

    private static void theFirstOneIsTold() {
        fault(0, "xxxx");
        fault(0, "x|a;b|b");
        fault(1, "axa;b|x");
        fault(2, "a|x;x|x");
        fault(3, "a|axb|x");
        fault(4, "a|a;x|b;x");
        fault(6, "a|a;b|a;b|c");
        fault(8, "a|a;b|b;z");
        fault(46, Strips.STRAIGHT.substring(0, 46) + "a");
        fault(47, Strips.STRAIGHT + "xxxxxxxxxxxxx");
    }

    private static void faultOfALetter() {
        // Both its ends are taken.
        fault(4, "a|a;a");
        fault(4, "a|a;a|");
        fault(8, "a|b;b|a;b");
        fault(12, "a^c;a_c;d|d;c");
        // Just one of them is taken.
        fault(5, "a|b;a");
        fault(5, "a|b;b");
        // One is taken, and from the other one nothing is later.
        fault(4, "l|l;l");
        fault(5, "a|l;l");
        fault(4, "a^l;l");
        fault(5, "a_l;l");
        // All lower ends are taken, so that a letter may just begin an upper arc.
        fault(25, Strips.LOWER_ARCS + ";a");
        fault(25, Strips.LOWER_ARCS + ";k");
        fault(24, Strips.LOWER_ARCS + ";l");
        fault(28, Strips.LOWER_ARCS + ";j^l;k");
        fault(29, Strips.LOWER_ARCS + ";j^k;i");
        // All upper ends are taken, so that a letter may just begin a lower arc.
        fault(25, Strips.UPPER_ARCS + ";a");
        fault(25, Strips.UPPER_ARCS + ";k");
        fault(24, Strips.UPPER_ARCS + ";l");
        fault(28, Strips.UPPER_ARCS + ";j_l;k");
        fault(29, Strips.UPPER_ARCS + ";j_k;i");
        // Two ends are left: a letter that belongs to neither, or to the later one of both.
        String upperLeft = "a_b;c_d;e_f;g_h;i_j;k_l;a^b;c^d;e^f;g^h;i^j";
        fault(45, upperLeft + ";k");
        fault(44, upperLeft + ";l");
        fault(44, upperLeft + ";a");
    }

    private static void faultOfASign() {
        // The end at which it begins is taken.
        fault(5, "a|b;a|");
        fault(5, "a|b;a^");
        fault(6, "a|b;a_");
        fault(6, "a|b;b|");
        fault(6, "a|b;b^");
        fault(5, "a|b;b_");
        // Nothing is later, or all that is later is taken.
        fault(1, "l^");
        fault(1, "l_");
        fault(2, "l|");
        fault(2, "k^");
        fault(2, "k_");
        fault(5, "l|a;k^");
        fault(6, "l|a;k_");
        fault(5, "a|l;k_");
        fault(6, "a|l;k^");
        fault(5, "k^l;j^");
        fault(5, "k_l;j_");
        fault(6, "j^l;i^");
        fault(6, "k_l;i_");
        // All ends on the other edge are taken.
        fault(25, Strips.LOWER_ARCS + ";a|");
        fault(26, Strips.LOWER_ARCS + ";a^");
        fault(25, Strips.LOWER_ARCS + ";a_");
        fault(25, Strips.UPPER_ARCS + ";a|");
        fault(25, Strips.UPPER_ARCS + ";a^");
        fault(26, Strips.UPPER_ARCS + ";a_");
        // One end is left on each edge.
        String down = "a|a;b|b;c|c;d|d;e|e;f|f;g|g;h|h;i|i;j|j;k|l";
        fault(46, down + ";l|");
        fault(45, down + ";l^");
        fault(44, down + ";k|");
        fault(NONE, down + ";l|k");
        fault(46, down + ";l|l");
    }

    private static void faultOfASemicolon() {
        fault(47, Strips.STRAIGHT + ";");
        fault(47, Strips.CROSSED + ";");
        fault(47, Strips.ARCS + ";");
        fault(47, Strips.ARCS + ";a^b");
        fault(44, Strips.STRAIGHT.substring(0, 44));
        fault(44, Strips.CROSSED.substring(0, 44));
        fault(44, Strips.ARCS.substring(0, 44));
        fault(4, "a|a;");
    }

    private static void tooEarly() {
        for (int length = 0; length < 47; length++) {
            fault(length % 4 == 3 ? NONE : length, Strips.STRAIGHT.substring(0, length));
            fault(length % 4 == 3 ? NONE : length, Strips.CROSSED.substring(0, length));
            fault(length % 4 == 3 ? NONE : length, Strips.ARCS.substring(0, length));
        }
        fault(NONE, Strips.STRAIGHT);
    }

    private static void empty() {
        FoldedStrips strips = new FoldedStrips();
        CHECKS.due("of a new object", 0, strips.fault());
        strips.put('a');
        CHECKS.due("of a letter", 1, strips.fault());
        strips.wipe();
        CHECKS.due("of a pad that was wiped", 0, strips.fault());
        CHECKS.due("it is not drawn", BAD_TEXT, strips.draw(0, 0));
        Strips.drawText(strips, 0, 0, "a|a");
        CHECKS.due("of a pad that was drawn", 0, strips.fault());
    }

    // ---- put

    private static void lastCharacterLowest() {
        FoldedStrips strips = new FoldedStrips();
        CHECKS.due("put", 3, strips.put('b' << 16 | '^' << 8 | 'k'));
        CHECKS.due("draw", 1, strips.draw(0, 0));
        CHECKS.due("the first letter is the highest", 10, strips.end(0, 1, 0));
        CHECKS.due("eight", 8, strips.put(0x637C643B6A5F6C3BL));
        CHECKS.due("they are c|d;j_l;", 8, strips.fault());
        CHECKS.due("three behind them", 11, strips.put(0x615E62));
        CHECKS.due("draw all", 3, strips.draw(0, 0));
        CHECKS.due("the first stroke", 15, strips.end(0, 2, 0));
        CHECKS.due("the second stroke", 23, strips.end(0, 21, 0));
        CHECKS.due("the third stroke", 1, strips.end(0, 0, 0));
    }

    private static long letters(int many) {
        return Strips.packed("aaaaaaaa".substring(0, many));
    }

    private static void nothingAboveZeros() {
        for (int many = 0; many <= 7; many++) {
            FoldedStrips strips = new FoldedStrips();
            for (int bit = 8 * many + 8; bit < 64; bit++) {
                CHECKS.due(many + " characters, then a hole, then the bit " + bit, BAD_VALUE,
                    strips.put(letters(many) | 1L << bit));
            }
            CHECKS.due(many + " characters and nothing above", many == 0 ? BAD_VALUE : many, strips.put(letters(many)));
        }
        FoldedStrips strips = new FoldedStrips();
        CHECKS.due("a letter, a hole, a letter", BAD_VALUE, strips.put(0x610061));
        CHECKS.due("a letter in the highest bits", BAD_VALUE, strips.put(0x6100000000000000L));
        CHECKS.due("seven letters above a hole", BAD_VALUE, strips.put(0x6161616161616100L));
        CHECKS.due("nothing was put", 0, strips.count(9));
    }

    private static void oneToEight() {
        for (int many = 1; many <= 8; many++) {
            FoldedStrips strips = new FoldedStrips();
            CHECKS.due("put " + many, many, strips.put(letters(many)));
            CHECKS.due("the length of " + many, many, strips.count(9));
            CHECKS.due("wipe " + many, many, strips.wipe());
        }
    }

    private static void noCharacter() {
        FoldedStrips strips = new FoldedStrips();
        CHECKS.due("0", BAD_VALUE, strips.put(0));
        CHECKS.due("0 and something above", BAD_VALUE, strips.put(256));
        CHECKS.due("nothing was put", 0, strips.count(9));
        strips.put('a');
        CHECKS.due("0 behind a letter", BAD_VALUE, strips.put(0));
        CHECKS.due("just the letter", 1, strips.count(9));
    }

    private static void codes() {
        for (int place = 0; place < 8; place++) {
            long others = 0x6161616161616161L & ~(255L << 8 * place);
            for (int code = 1; code < 256; code++) {
                FoldedStrips strips = new FoldedStrips();
                boolean taken = code >= 33 && code <= 126;
                CHECKS.due("the code " + code + " at the place " + place, taken ? 8 : BAD_VALUE,
                    strips.put(others | (long) code << 8 * place));
                CHECKS.due("the length then", taken ? 8 : 0, strips.count(9));
            }
            long lower = letters(place);
            FoldedStrips strips = new FoldedStrips();
            CHECKS.due("the lowest code ahead of " + place, place + 1, strips.put(33L << 8 * place | lower));
            CHECKS.due("one below it", BAD_VALUE, strips.put(32L << 8 * place | lower));
            CHECKS.due("the highest code", 2 * place + 2, strips.put(126L << 8 * place | lower));
            CHECKS.due("one above it", BAD_VALUE, strips.put(127L << 8 * place | lower));
            CHECKS.due("with the highest bit", BAD_VALUE, strips.put(225L << 8 * place | lower));
        }
    }

    private static void lengths() {
        FoldedStrips strips = new FoldedStrips();
        int length = 0;
        for (int many : new int[] {1, 8, 2, 7, 3, 6, 4, 5, 8, 8, 8}) {
            length += many;
            CHECKS.due("with " + many + " more", length, strips.put(letters(many)));
            CHECKS.due("it is as long", length, strips.count(9));
        }
        CHECKS.due("it is full", 60, length);
    }

    private static FoldedStrips withLength(int length) {
        FoldedStrips strips = new FoldedStrips();
        Strips.putText(strips, "b".repeat(length));
        return strips;
    }

    private static void tooMany() {
        for (int many = 1; many <= 8; many++) {
            CHECKS.due(many + " that just have room", 60, withLength(60 - many).put(letters(many)));
            for (int length = 61 - many; length <= 60; length++) {
                FoldedStrips strips = withLength(length);
                CHECKS.due(many + " more than " + length, TOO_MANY, strips.put(letters(many)));
                CHECKS.due("none of them is put", length, strips.count(9));
            }
        }
        FoldedStrips strips = withLength(59);
        CHECKS.due("two are too many", TOO_MANY, strips.put(letters(2)));
        CHECKS.due("one still has room", 60, strips.put(letters(1)));
        strips.wipe();
        CHECKS.due("there is room again", 8, strips.put(letters(8)));
    }

    private static void putIsNoChange() {
        FoldedStrips strips = new FoldedStrips();
        strips.join(0, 0, 1);
        strips.put('a');
        CHECKS.due("changes", 1, strips.count(10));
        CHECKS.due("strokes", 1, strips.count(0));
        CHECKS.due("undo takes the join back", 0, strips.undo());
        CHECKS.due("it leaves the pad", 1, strips.count(9));
    }

    // ---- wipe

    private static void wipeEmpties() {
        FoldedStrips strips = withLength(60);
        strips.wipe();
        CHECKS.due("its length", 0, strips.count(9));
        CHECKS.due("its fault", 0, strips.fault());
        Strips.putText(strips, "k_l");
        CHECKS.due("what is put then is all", NONE, strips.fault());
        CHECKS.due("it is drawn", 1, strips.draw(0, 0));
    }

    private static void wipeReturnsTheLength() {
        for (int length = 0; length <= 60; length++) {
            FoldedStrips strips = withLength(length);
            CHECKS.due("of " + length, length, strips.wipe());
            CHECKS.due("of nothing", 0, strips.wipe());
        }
    }

    private static void wipeIsNoChange() {
        FoldedStrips strips = Strips.drawn("a|a;b|b");
        Strips.putText(strips, "a|");
        strips.wipe();
        CHECKS.due("changes", 1, strips.count(10));
        CHECKS.due("strokes", 2, strips.count(0));
        CHECKS.due("undo takes the drawing back", 0, strips.undo());
        CHECKS.due("it does not bring the pad back", 0, strips.count(9));
    }

    // ---- fault

    private static void faultOrNone() {
        FoldedStrips strips = new FoldedStrips();
        int[] due = {1, 2, NONE, 4, 5, 6, NONE};
        String text = "a|a;b|b";
        for (int at = 0; at < 7; at++) {
            strips.put(text.charAt(at));
            CHECKS.due("of " + (at + 1) + " characters", due[at], strips.fault());
        }
        strips.put('b');
        CHECKS.due("of one too many", 7, strips.fault());
        strips.put(';');
        CHECKS.due("it stays", 7, strips.fault());
        strips.wipe();
        strips.put('~');
        CHECKS.due("at the first character", 0, strips.fault());
    }

    private static void faultOfTheTextAlone() {
        FoldedStrips strips = Strips.drawnAll(Strips.STRAIGHT);
        Strips.putText(strips, "a|a");
        CHECKS.due("of ends that panels have taken", NONE, strips.fault());
        CHECKS.due("it is drawn in place of them", 1, strips.draw(0, 0));
    }

    private static void faultChangesNothing() {
        FoldedStrips strips = Strips.drawn("a|a");
        Strips.putText(strips, "a|a;a");
        CHECKS.due("once", 4, strips.fault());
        CHECKS.due("and again", 4, strips.fault());
        CHECKS.due("the length", 5, strips.count(9));
        CHECKS.due("changes", 1, strips.count(10));
        CHECKS.due("strokes", 1, strips.count(0));
        CHECKS.due("wipe", 5, strips.wipe());
    }
}
