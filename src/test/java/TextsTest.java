/** Promises 19 and 21 in ordinary use: the pad. */
public final class TextsTest {
    private static final Checks CHECKS = new Checks("TextsTest");

    public static void main(String[] args) {
        put();
        theOrderOfCharacters();
        faultOfSigns();
        faultOfTakenEnds();
        faultOfWhatCannotGoOn();
        faultOfFullPanels();
        CHECKS.close();
    }

    // Promise 19
    private static void put() {
        FoldedStrips strips = new FoldedStrips();
        CHECKS.due("put: one character", 1, strips.put('a'));
        CHECKS.due("put: the lowest code", 2, strips.put(33));
        CHECKS.due("put: the highest code", 3, strips.put(126));
        CHECKS.due("put: two characters", 5, strips.put(0x617C));
        CHECKS.due("put: eight characters", 13, strips.put(0x7E7E7E7E7E7E7E7EL));
        CHECKS.due("put: the length", 13, strips.count(9));
        CHECKS.due("put: it is no change", 0, strips.count(10));
        CHECKS.due("put: seven characters", 20, strips.put(Strips.packed("a|b;c_d")));
    }

    private static void theOrderOfCharacters() {
        FoldedStrips strips = new FoldedStrips();
        strips.put(Strips.packed("b^d;a"));
        strips.put(Strips.packed("|l"));
        CHECKS.due("put: the order", 2, strips.draw(0, 0));
        CHECKS.due("put: the first stroke", 3, strips.end(0, 1, 0));
        CHECKS.due("put: the second stroke", 23, strips.end(0, 0, 0));
        strips.put('c');
        strips.put('_');
        strips.put('k');
        CHECKS.due("put: behind an emptied pad", 1, strips.draw(0, 0));
        CHECKS.due("put: by ones", 22, strips.end(0, 14, 0));
    }

    // Promise 21
    private static void fault(String text, int want) {
        CHECKS.due("fault of " + text, want, Strips.faultOf(text));
        CHECKS.due("the model's fault of " + text, want, Model.faultOf(text));
    }

    private static void faultOfSigns() {
        fault("", 0);
        fault("a", 1);
        fault("a|", 2);
        fault("a|a", -6);
        fault("l|l", -6);
        fault("a|l", -6);
        fault("l|a", -6);
        fault("a^b", -6);
        fault("k_l", -6);
        fault("a_l", -6);
        fault("a|a;", 4);
        fault("a|a;b", 5);
        fault("a|a;b|b", -6);
        fault("m|a", 0);
        fault("`|a", 0);
        fault("A|a", 0);
        fault("|", 0);
        fault(";", 0);
        fault(";a|a", 0);
        fault("ab", 1);
        fault("a-b", 1);
        fault("a;b", 1);
        fault("a]b", 1);
        fault("a|m", 2);
        fault("a|`", 2);
        fault("a|L", 2);
        fault("a||", 2);
        fault("a_;", 2);
        fault("a|a|", 3);
        fault("a|aa", 3);
        fault("a|a,b|b", 3);
        fault("a|a;;", 4);
        fault("a|a;m|b", 4);
        fault("a|a;b|b;", 8);
        fault("a^a", 2);
        fault("b^a", 2);
        fault("b^c", -6);
        fault("a_a", 2);
        fault("l_a", 1);
        fault("l^l", 1);
        fault("l|", 2);
        fault("l", 1);
        fault("k", 1);
        fault("k^k", 2);
        fault("k_j", 2);
        fault("m", 0);
        fault("a|b;c^d;e_f;g", 13);
    }

    private static void faultOfTakenEnds() {
        fault("a|a;a|b", 4);
        fault("a|a;a^b", 4);
        fault("a|a;a_b", 4);
        fault("a|a;b|a", 6);
        fault("a|a;b|b", -6);
        fault("a|b;a_c", -6);
        fault("a|b;b_c", 5);
        fault("a|b;b^c", -6);
        fault("a^c;b^c", 6);
        fault("a^c;b_c", -6);
        fault("a_c;b_c", 6);
        fault("a_c;b|c", 6);
        fault("a^c;c|c", 5);
        fault("a^c;c_d", -6);
        fault("a_b;a^b", -6);
        fault("a_b;a^b;a", 8);
        fault("a|a;a", 4);
        fault("a|b;b|a;a", 8);
        fault("a|b;b|c;b", 8);
        fault("a|b;a", 5);
        fault("a|b;c_d;a^b", 9);
        fault("a|b;c_d;a_e", -6);
    }

    private static void faultOfWhatCannotGoOn() {
        fault("k^l;j^k", 5);
        fault("k^l;j^", 5);
        fault("k^l;j|j", -6);
        fault("k^l;i^j", -6);
        fault("k_l;j_", 5);
        fault("a^l;k|a;k", 9);
        fault("a^l;k|a;k_l", -6);
        fault("a|l;l", 5);
        fault("a|l;l_", 5);
        fault("a|l;l^", 5);
        fault("a|l;l|", 6);
        fault("l|l;l", 4);
        fault("l^", 1);
        // The upper l is taken and nothing comes behind the lower one.
        fault("a^l;l", 4);
        fault("a^l;k", 5);
        fault("a^l;k^", 5);
        fault("a^l;k_", 6);
        // The lower l is taken: nothing is open behind the lower k.
        fault("a_l;k_", 5);
        fault("a_l;k^", 6);
        fault("a_l;k^l;k", 8);
        // All lower ends are taken: no stroke goes down any more.
        String low = "a_b;c_d;e_f;g_h;i_j;k_l";
        fault(low, -6);
        fault(low + ";", 24);
        fault(low + ";a|", 25);
        fault(low + ";a^", 26);
        fault(low + ";a_", 25);
        fault(low + ";l", 24);
        fault(low + ";a^l;b^k;c^j;d^i;e^h;g", 44);
        fault(low + ";a^l;b^k;c^j;d^i;e^h;f", 45);
        // All upper ends are taken.
        String high = "a^b;c^d;e^f;g^h;i^j;k^l";
        fault(high + ";a|", 25);
        fault(high + ";a^", 25);
        fault(high + ";a_", 26);
        fault(high + ";l", 24);
        fault(high + ";k_l", -6);
        // One upper and one lower end are open: they can be joined by a stroke down alone.
        String down = "a|a;b|b;c|c;d|d;e|e;f|f;g|g;h|h;i|i;j|j;l|k";
        fault(down, -6);
        fault(down + ";", 44);
        fault(down + ";k", 45);
        fault(down + ";l", 44);
        fault(down + ";k_", 45);
        fault(down + ";k^", 45);
        fault(down + ";k|k", 46);
        fault(down + ";k|l", -6);
    }

    private static void faultOfFullPanels() {
        String full = "a|a;b|b;c|c;d|d;e|e;f|f;g|g;h|h;i|i;j|j;k|k;l|l";
        fault(full, -6);
        fault(full + ";", 47);
        fault(full + ";a|a", 47);
        fault(full + "a", 47);
        fault("a_b;c_d;e_f;g_h;i_j;k_l;a^b;c^d;e^f;g^h;i^j;k^l;", 47);
        fault("a_l;b_k;c_j;d_i;e_h;f_g;a^l;b^k;c^j;d^i;e^h;f^g", -6);
        fault("!".repeat(60), 0);
        fault("a".repeat(60), 1);
        fault((full + ";" + full).substring(0, 60), 47);
    }
}
