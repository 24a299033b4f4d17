/** Counts answers that are not as due; a test ends with exit code 1 if there was one. */
final class Due {
    private static int asked = 0;
    private static int wrong = 0;
    private static String sentence = "";

    private Due() {
    }

    /** The document's own words that are tested from here on: they are told ahead of each wrong answer. */
    static void says(String words) {
        sentence = "\"" + words + "\" ";
    }

    static void due(String call, long got, long want) {
        asked++;
        if (got != want) {
            wrong++;
            System.out.println(sentence + call + " answered " + got + ", due is " + want);
        }
    }

    static void holds(String what, boolean isSo) {
        due(what, isSo ? 1 : 0, 1);
    }

    /** Types a text and reads it: what read() answers. */
    static int morning(PuddleClaims x, String text) {
        for (int k = 0; k < text.length(); k++) {
            due("type " + text + " letter " + k, x.type(text.charAt(k)), k + 1);
        }
        return x.read();
    }

    /** A new object whose street is a text's. */
    static PuddleClaims street(String text) {
        PuddleClaims x = new PuddleClaims();
        holds("read of " + text, morning(x, text) > 0);
        return x;
    }

    static void finish() {
        System.out.println(asked + " answers, " + wrong + " not as due");
        if (wrong != 0) {
            System.exit(1);
        }
    }
}
