import java.util.Random;

/** Long runs of mixed calls, the same for the class and for the model of the document; each answer is compared. */
public final class ModelTest {
    private static final Checks CHECKS = new Checks("ModelTest");
    private static final int RUNS = 400;
    private static final int CALLS = 512;
    private static final int MOST_OF_A_STEP = 60;

    private final Random random;
    private final FoldedStrips strips = new FoldedStrips();
    private final Model model = new Model();
    private final boolean straight;
    private final int wild;
    private final int busy;
    private int calls = 0;

    private ModelTest(int seed) {
        random = new Random(seed);
        straight = seed % 3 == 0;
        wild = new int[] {0, 2, 10, 40}[seed % 4];
        busy = 3 + seed % 10;
    }

    public static void main(String[] args) {
        for (int seed = 1; seed <= RUNS && !CHECKS.anyWrong(); seed++) {
            ModelTest run = new ModelTest(seed);
            run.allCalls();
        }
        faultsOfManyTexts();
        CHECKS.close();
    }

    /** As many calls as the document allows for an object; the last ones are such that are made one by one. */
    private void allCalls() {
        while (calls < CALLS && !CHECKS.anyWrong()) {
            if (calls + MOST_OF_A_STEP <= CALLS) {
                step();
            } else {
                look();
            }
        }
    }

    private void same(String call, int want, int got) {
        calls++;
        CHECKS.due(call, want, got);
    }

    /** Mostly a number below size, now and then one that is not. */
    private int below(int size) {
        if (random.nextInt(100) >= wild) {
            return random.nextInt(size);
        }
        int[] odd = {-1, size, size + 1, -2, -size, Integer.MIN_VALUE, Integer.MAX_VALUE, random.nextInt()};
        return odd[random.nextInt(odd.length)];
    }

    private void step() {
        int kind = random.nextInt(20);
        if (kind < busy) {
            change();
        } else if (kind == 19) {
            history();
        } else {
            look();
        }
    }

    private void change() {
        int panel = below(6);
        int end = below(24);
        int other = straight ? (end + 12) % 24 : below(24);
        int hand = below(6);
        int how = below(3);
        int columns = random.nextInt(100) < wild ? below(12) : random.nextInt(7) - 3;
        switch (random.nextInt(10)) {
            case 0, 1 -> drawing(panel, hand);
            case 2, 3 -> same("join " + panel + " " + end + " " + other,
                model.join(panel, end, other), strips.join(panel, end, other));
            case 4 -> same("rub " + panel + " " + end, model.rub(panel, end), strips.rub(panel, end));
            case 5 -> same("slide " + panel + " " + columns, model.slide(panel, columns), strips.slide(panel, columns));
            case 6 -> same("turn " + panel + " " + how, model.turn(panel, how), strips.turn(panel, how));
            case 7 -> same("exchange " + panel + " " + hand, model.exchange(panel, hand), strips.exchange(panel, hand));
            case 8 -> same("takeUp " + panel, model.takeUp(panel), strips.takeUp(panel));
            default -> {
                if (random.nextInt(3) == 0) {
                    same("clear " + panel, model.clear(panel), strips.clear(panel));
                }
            }
        }
    }

    private void history() {
        int slot = below(2);
        switch (random.nextInt(4)) {
            case 0 -> same("save " + slot, model.save(slot), strips.save(slot));
            case 1 -> same("restore " + slot, model.restore(slot), strips.restore(slot));
            default -> {
                for (int many = random.nextInt(8); many >= 0; many--) {
                    same("undo", model.undo(), strips.undo());
                }
            }
        }
    }

    private void drawing(int panel, int hand) {
        if (random.nextInt(3) > 0) {
            same("wipe", model.wipe(), strips.wipe());
        }
        String text = someText();
        for (int at = 0; at < text.length(); ) {
            int next = Math.min(text.length(), at + 1 + random.nextInt(8));
            long number = Strips.packed(text.substring(at, next));
            if (random.nextInt(100) < wild) {
                number ^= 1L << random.nextInt(64);
            }
            same("put " + number, model.put(number), strips.put(number));
            at = next;
        }
        if (text.length() < 24 || random.nextInt(4) == 0) {
            same("fault of " + text, model.fault(), strips.fault());
        }
        same("draw " + panel + " " + hand, model.draw(panel, hand), strips.draw(panel, hand));
    }

    /** A text of strokes, with one sign changed in some. */
    private String someText() {
        StringBuilder text = new StringBuilder();
        int strokes = 1 + random.nextInt(random.nextInt(5) == 0 ? 14 : 5);
        for (int stroke = 0; stroke < strokes; stroke++) {
            text.append(stroke == 0 ? "" : ";").append(someStroke(text.toString()));
        }
        if (random.nextInt(100) < 5 + wild) {
            String signs = "abcdefghijklm|^_;`@A~!";
            text.setCharAt(random.nextInt(text.length()), signs.charAt(random.nextInt(signs.length())));
        }
        return text.toString();
    }

    private String someStroke(String behind) {
        String stroke = "";
        for (int tries = 0; tries < 30; tries++) {
            char one = (char) ('a' + random.nextInt(12));
            char two = straight ? one : (char) ('a' + random.nextInt(12));
            stroke = "" + one + "|||^_".charAt(random.nextInt(5)) + two;
            if (Model.isText(behind + stroke)) {
                return stroke;
            }
        }
        return stroke;
    }

    private void look() {
        int panel = below(6);
        int end = below(24);
        int how = below(3);
        int what = below(4);
        switch (random.nextInt(11)) {
            case 0, 1 -> same("end " + panel + " " + end + " " + what,
                model.end(panel, end, what), strips.end(panel, end, what));
            case 2 -> looks("panel", panel, below(8));
            case 3 -> same("fold " + panel + " " + what, model.fold(panel, what), strips.fold(panel, what));
            case 4 -> same("hand " + panel + " " + what, model.hand(panel, what), strips.hand(panel, what));
            case 5, 6 -> looks("line", below(8), below(6));
            case 7 -> looks("count", 0, below(11));
            case 8 -> same("bestSlide " + panel + " " + how,
                model.bestSlide(panel, how), strips.bestSlide(panel, how));
            case 9 -> same("bestExchange " + how, model.bestExchange(how), strips.bestExchange(how));
            default -> same("ifTurned " + panel + " " + how + " " + what,
                model.ifTurned(panel, how, what), strips.ifTurned(panel, how, what));
        }
    }

    private void looks(String kind, int number, int what) {
        String call = kind + " " + number + " " + what;
        switch (kind) {
            case "panel" -> same(call, model.panel(number, what), strips.panel(number, what));
            case "line" -> same(call, model.line(number, what), strips.line(number, what));
            default -> same(call, model.count(what), strips.count(what));
        }
    }

    private static void faultsOfManyTexts() {
        ModelTest texts = new ModelTest(12);
        for (int many = 0; many < 3000; many++) {
            StringBuilder text = new StringBuilder(texts.fullText());
            if (many % 2 == 0) {
                text.setLength(texts.random.nextInt(text.length() + 1));
            } else {
                String signs = "abcdefghijkl|^_;m";
                int at = texts.random.nextInt(text.length());
                text.setCharAt(at, signs.charAt(texts.random.nextInt(signs.length())));
            }
            CHECKS.due("fault of " + text, Model.faultOf(text.toString()), Strips.faultOf(text.toString()));
        }
    }

    /** Up to 60 characters, with as many strokes as find two ends that are open. */
    private String fullText() {
        StringBuilder text = new StringBuilder();
        for (int stroke = 0; stroke < 15; stroke++) {
            text.append(stroke == 0 ? "" : ";").append(someStroke(text.toString()));
        }
        return text.toString();
    }
}
