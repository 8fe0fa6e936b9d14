/** Counts answers that are not as due, and ends a test with exit code 1 if there was one. */
final class Due {
    private static int asked = 0;
    private static int wrong = 0;
    private static String sentence = "";

    private Due() {
    }

    /** The document's sentence that the next answers hold to; told with each that is wrong. */
    static void of(String words) {
        sentence = "\"" + words + "\": ";
    }

    static void is(String call, long got, long want) {
        asked++;
        if (got != want) {
            wrong++;
            System.out.println(sentence + call + " answered " + got + ", due is " + want);
        }
    }

    /** Answers of what = 0, 1, .. in a row are told as one. */
    static void row(String call, long[] got, long... want) {
        is(call + ": how many", got.length, want.length);
        for (int i = 0; i < got.length && i < want.length; i++) {
            is(call + " [" + i + "]", got[i], want[i]);
        }
    }

    static void tell(RosetteShow x, int text, String bytes) {
        x.wipe(text);
        for (int i = 0; i < bytes.length(); i++) {
            is("type " + bytes.charAt(i) + " of " + bytes, x.type(text, bytes.charAt(i)), i + 1);
        }
    }

    static RosetteShow show(String things, String judges, String box) {
        RosetteShow x = new RosetteShow();
        tell(x, 0, things);
        tell(x, 1, judges);
        tell(x, 2, box);
        return x;
    }

    static void end() {
        System.out.println(wrong == 0 ? asked + " answers are as due" : wrong + " of " + asked + " answers are not as due");
        if (wrong != 0) {
            System.exit(1);
        }
    }
}
