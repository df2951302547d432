/** Counts and prints the answers that are not the ones that are due. */
public final class Due {
    /** A call that may throw. */
    public interface Call {
        int answer();
    }

    private static int wrong = 0;

    private Due() {
    }

    public static void is(String what, long got, long want) {
        if (got != want) {
            wrong++;
            System.out.println(what + " answered " + got + ", due is " + want);
        }
    }

    /** IndexOutOfBoundsException is due. */
    public static void noSuch(String what, Call call) {
        thrown(what, call, "IndexOutOfBoundsException");
    }

    /** IllegalArgumentException is due. */
    public static void noArgument(String what, Call call) {
        thrown(what, call, "IllegalArgumentException");
    }

    /** IllegalStateException is due. */
    public static void noState(String what, Call call) {
        thrown(what, call, "IllegalStateException");
    }

    // the very class counts: the machine's own exceptions are often subclasses of the due ones
    private static void thrown(String what, Call call, String want) {
        String got = "nothing";
        try {
            call.answer();
        } catch (RuntimeException e) {
            got = e.getClass().getSimpleName();
        }
        if (!got.equals(want)) {
            wrong++;
            System.out.println(what + " threw " + got + ", due is " + want);
        }
    }

    /** Writes a text into the buffer in place of the old one. */
    public static void write(FairWalls x, String text) {
        x.clearText();
        for (int i = 0; i < text.length(); i++) {
            x.append(text.charAt(i));
        }
    }

    /** A new fair, loaded from a text. */
    public static FairWalls fair(String text) {
        FairWalls x = new FairWalls();
        write(x, text);
        x.load();
        return x;
    }

    /** Ends a test: with exit code 1 if an answer was not as due. */
    public static void end() {
        System.out.println(wrong == 0 ? "all answers are as due" : wrong + " answers are not as due");
        if (wrong != 0) {
            System.exit(1);
        }
    }
}
