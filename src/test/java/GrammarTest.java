/** The text: at each place exactly the signs that the rules allow, and where the text ends too soon. */
public final class GrammarTest {
    private static final int NONE = FairWalls.NONE;
    private static final String DIGITS = "0123456789";
    private static final String LETTERS = "wodplsne";

    public static void main(String[] args) {
        start();
        walls();
        outlets();
        dealers();
        places();
        leaves();
        swaps();
        days();
        settings();
        laterCommands();
        firstOfTwoErrors();
        Due.end();
    }

    private static int errorOf(String text) {
        FairWalls x = new FairWalls();
        Due.write(x, text);
        return x.errorPosition();
    }

    /** Behind the beginning only these signs are allowed; a text that ends there ends too soon. */
    private static void goesOn(String beginning, String allowed) {
        Due.is("errorPosition() of " + beginning, errorOf(beginning), beginning.length());
        only(beginning, allowed);
    }

    /** The commands are whole: the text is a fair, and only letters are allowed behind it. */
    private static void whole(String text) {
        Due.is("errorPosition() of " + text, errorOf(text), NONE);
        only(text, LETTERS);
    }

    private static void only(String beginning, String allowed) {
        for (char c = 0; c <= 255; c++) {
            int error = errorOf(beginning + c);
            if (allowed.indexOf(c) < 0) {
                Due.is("errorPosition() of " + beginning + " and sign " + (int) c, error, beginning.length());
                String more = beginning.length() < 117 ? "w04" : "";
                Due.is("and with more behind it", errorOf(beginning + c + more), beginning.length());
            } else if (error != NONE) {
                Due.is("errorPosition() of " + beginning + " and sign " + (int) c, error, beginning.length() + 1);
            }
        }
    }

    private static void start() {
        goesOn("", "A");
        whole("A");
    }

    private static void walls() {
        goesOn("Aw", "0123");
        goesOn("Aw0", "456789");
        goesOn("Aw1", DIGITS);
        goesOn("Aw2", DIGITS);
        goesOn("Aw3", "0");
        for (int length = 4; length <= 30; length++) {
            whole("Aw" + length / 10 + length % 10);
        }
    }

    private static void outlets() {
        goesOn("Ao", "0123");
        goesOn("Ao0", "012");
        goesOn("Ao3", "012");
        goesOn("Ao00", DIGITS);
        goesOn("Ao11", DIGITS);
        goesOn("Ao32", DIGITS);
        goesOn("Ao000", "01234");
        goesOn("Ao329", "01234");
        whole("Ao0000");
        whole("Ao3294");
    }

    private static void dealers() {
        goesOn("Ad", "012345");
        goesOn("Ad0", "123456789");
        goesOn("Ad5", "123456789");
        goesOn("Ad01", "0123");
        goesOn("Ad59", "0123");
        whole("Ad010");
        whole("Ad593");
    }

    private static void places() {
        goesOn("Ap", DIGITS);
        goesOn("Ap0", "0123");
        goesOn("Ap9", "0123");
        goesOn("Ap00", "012");
        goesOn("Ap93", "012");
        goesOn("Ap000", DIGITS);
        goesOn("Ap932", DIGITS);
        whole("Ap0000");
        whole("Ap9329");
    }

    private static void leaves() {
        goesOn("Al", DIGITS);
        whole("Al0");
        whole("Al9");
    }

    private static void swaps() {
        goesOn("As", DIGITS);
        goesOn("As0", DIGITS);
        goesOn("As9", DIGITS);
        whole("As00");
        whole("As99");
    }

    private static void days() {
        goesOn("An", "0123456");
        goesOn("An0", "123456789");
        goesOn("An1", DIGITS);
        goesOn("An5", DIGITS);
        goesOn("An6", "0");
        for (int n = 1; n <= 60; n++) {
            whole("An" + n / 10 + n % 10);
        }
    }

    private static void settings() {
        goesOn("Ae", "012345");
        for (char what = '0'; what <= '5'; what++) {
            goesOn("Ae" + what, "012345");
            goesOn("Ae" + what + "0", DIGITS);
            goesOn("Ae" + what + "4", DIGITS);
            goesOn("Ae" + what + "5", "0");
            whole("Ae" + what + "00");
            whole("Ae" + what + "50");
        }
    }

    /** The rules are the same behind other commands, up to the last of 120 characters. */
    private static void laterCommands() {
        StringBuilder before = new StringBuilder("A");
        while (before.length() < 115) {
            before.append("l7");
        }
        goesOn(before + "w", "0123");
        goesOn(before + "w3", "0");
        goesOn(before + "o003", "01234");
        Due.is("a whole command at the end", errorOf(before + "o0294"), NONE);
        Due.is("the last of 120 is wrong", errorOf(before + "o0295"), 119);
        Due.is("120 end too soon", errorOf(before + "l7l7l"), 120);
        whole("Aw04o0001d010p0000l0s01n01e000");
        goesOn("Aw04o0001d010p0000l0s01n01e00", DIGITS);
    }

    private static void firstOfTwoErrors() {
        Due.is("two signs that are not allowed", errorOf("Aw31n00"), 3);
        Due.is("not allowed, and too soon", errorOf("Al?w"), 2);
        Due.is("no A, but a command", errorOf("w04"), 0);
        Due.is("a blank between", errorOf("Aw04 w04"), 4);
        Due.is("a blank ahead", errorOf(" A"), 0);
        Due.is("a great letter", errorOf("AW04"), 1);
        Due.is("a second A", errorOf("Aw04A"), 4);
    }
}
