/** Counts and prints the answers that are not due. */
final class Due {
    private static int wrong = 0;

    private Due() { }

    static void due(String call, long got, long want) {
        if (got != want) {
            wrong++;
            if (wrong <= 50) {
                System.out.println(call + " answered " + got + ", due is " + want);
            }
        }
    }

    static boolean any() {
        return wrong > 0;
    }

    static void end(String name) {
        System.out.println(name + ": " + (wrong == 0 ? "all answers are as due" : wrong + " answers are not as due"));
        if (wrong != 0) {
            System.exit(1);
        }
    }

    /** Feeds a text by eight bytes at a time. */
    static void tape(HotSprings x, String text) {
        int size = x.count(6);
        for (int i = 0; i < text.length(); i += 8) {
            String part = text.substring(i, Math.min(text.length(), i + 8));
            size += part.length();
            due("feed(" + part + ")", x.feed(word(part), part.length()), size);
        }
    }

    static long word(String part) {
        long w = 0;
        for (char c : part.toCharArray()) {
            w = w << 8 | c & 255;
        }
        return w;
    }

    /** Reads a text as an ORDER from a DAY on. */
    static void order(HotSprings x, String text, int day, int want) {
        tape(x, text);
        due("text(" + day + ") of " + text, x.text(day), want);
    }
}
