import java.nio.charset.StandardCharsets;

/** What all tests share: answers are compared, wrong ones printed, and the end told by the exit code. */
final class Due {
    private static int wrong = 0;
    private static int asked = 0;

    private Due() {
    }

    static void due(String call, long got, long want) {
        asked++;
        if (got != want) {
            wrong++;
            System.out.println(call + " answered " + got + ", due is " + want);
        }
    }

    static void due(String call, boolean got, boolean want) {
        due(call, got ? 1L : 0L, want ? 1L : 0L);
    }

    static void end(String name) {
        System.out.println(name + ": " + asked + " answers, " + wrong + " wrong");
        if (wrong != 0) {
            System.exit(1);
        }
    }

    /** Feeds a text, filled up with blanks to whole twenties. */
    static void feed(PitInspector x, String text) {
        byte[] bytes = text.getBytes(StandardCharsets.ISO_8859_1);
        for (int from = 0; from < bytes.length; from += 20) {
            int[] five = new int[5];
            for (int b = 0; b < 20; b++) {
                int sign = from + b < bytes.length ? bytes[from + b] & 255 : ' ';
                five[b / 4] = five[b / 4] << 8 | sign;
            }
            x.feed(five[0], five[1], five[2], five[3], five[4]);
        }
    }

    static int text(PitInspector x, int p, int from, int to, String text) {
        feed(x, text);
        return x.text(p, from, to, text.length());
    }

    /** An act in force on all days. */
    static int act(PitInspector x, String text) {
        return text(x, PitInspector.NONE, 0, 3472, text);
    }

    /** Rules of a pit, in force on all days. */
    static int rules(PitInspector x, int p, String text) {
        return text(x, p, 0, 3472, text);
    }
}
