/** Counts and prints the answers that are not the ones that are due. */
public final class Due {
    public static final String NO_SUCH = "IndexOutOfBoundsException";
    public static final String NO_ARGUMENT = "IllegalArgumentException";
    public static final String NO_STATE = "IllegalStateException";

    /** A call that may throw. */
    public interface Call {
        int answer();
    }

    /** A call of an object that is yet to be made. */
    public interface CallOf {
        int answer(FairWalls x);
    }

    private static int wrong = 0;

    private Due() {
    }

    public static void is(String what, long got, long want) {
        if (got != want) {
            wrong++;
            System.out.println(what + " answered " + got + ", due is " + want);
        }
    }

    public static void same(String what, String got, String want) {
        if (!got.equals(want)) {
            wrong++;
            System.out.println(what + " told " + got + ", due is " + want);
        }
    }

    /** IndexOutOfBoundsException is due. */
    public static void noSuch(String what, Call call) {
        thrown(what, call, NO_SUCH);
    }

    /** IllegalArgumentException is due. */
    public static void noArgument(String what, Call call) {
        thrown(what, call, NO_ARGUMENT);
    }

    /** IllegalStateException is due. */
    public static void noState(String what, Call call) {
        thrown(what, call, NO_STATE);
    }

    private static void thrown(String what, Call call, String want) {
        same(what, told(call), want);
    }

    /**
     * The answer, or the name of what is thrown. The very class counts: the machine's own exceptions are often
     * subclasses of the due ones.
     */
    public static String told(Call call) {
        try {
            return Integer.toString(call.answer());
        } catch (RuntimeException e) {
            return e.getClass().getSimpleName();
        }
    }

    /** Writes a text into the buffer in place of the old one. */
    public static void write(FairWalls x, String text) {
        x.clearText();
        for (int i = 0; i < text.length(); i++) {
            x.append(text.charAt(i));
        }
    }

    /** A new fair, loaded from a text. */
    public static FairWalls fair(String text) {
        FairWalls x = new FairWalls();
        write(x, text);
        x.load();
        return x;
    }

    /** Ends a test: with exit code 1 if an answer was not as due. */
    public static void end() {
        System.out.println(wrong == 0 ? "all answers are as due" : wrong + " answers are not as due");
        if (wrong != 0) {
            System.exit(1);
        }
    }
}
