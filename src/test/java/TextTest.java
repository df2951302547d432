/** Promises 1 to 5: a new object, append, clearText, errorPosition, load. */
public final class TextTest {
    public static void main(String[] args) {
        newObject();
        appending();
        clearing();
        startOfText();
        commandsOfText();
        endOfText();
        loading();
        leavingOut();
        loadingForgets();
        loadingNoFair();
        Due.end();
    }

    private static void newObject() {
        FairWalls x = new FairWalls();
        for (int what = 0; what <= 13; what++) {
            Due.is("new: about(" + what + ")", x.about(what), 0);
        }
        int[] settings = {6, 1, 5, 3, 4, 2};
        for (int what = 0; what <= 5; what++) {
            Due.is("new: setting(" + what + ")", x.setting(what), settings[what]);
        }
        Due.is("new: clearText()", x.clearText(), 0);
        Due.noState("new: undo()", x::undo);
        Due.noState("new: load()", x::load);
        Due.noSuch("new: wallOf(0, 0)", () -> x.wallOf(0, 0));
        Due.noSuch("new: dealerOf(0, 0)", () -> x.dealerOf(0, 0));
        Due.noState("new: restore(0)", () -> x.restore(0));
        Due.noState("new: restore(1)", () -> x.restore(1));
    }

    private static void appending() {
        FairWalls x = new FairWalls();
        Due.noArgument("append(-1)", () -> x.append(-1));
        Due.noArgument("append(256)", () -> x.append(256));
        Due.is("append(0)", x.append(0), 1);
        Due.is("append(255)", x.append(255), 2);
        for (int i = 3; i <= 120; i++) {
            Due.is("append('A')", x.append('A'), i);
        }
        Due.noState("append('A') to 120", () -> x.append('A'));
        Due.noArgument("append(256) to 120", () -> x.append(256));
        Due.is("clearText() of 120", x.clearText(), 120);
    }

    private static void clearing() {
        FairWalls x = new FairWalls();
        Due.write(x, "Aw05");
        Due.is("clearText()", x.clearText(), 4);
        Due.is("clearText() again", x.clearText(), 0);
        Due.is("errorPosition() of nothing", x.errorPosition(), 0);
        Due.is("append behind clearText", x.append('A'), 1);
        Due.is("errorPosition() of A", x.errorPosition(), FairWalls.NONE);
    }

    private static void error(String text, int want) {
        FairWalls x = new FairWalls();
        Due.write(x, text);
        Due.is("errorPosition() of " + text, x.errorPosition(), want);
        if (want == FairWalls.NONE) {
            x.load();
        } else {
            Due.noState("load() of " + text, x::load);
        }
        Due.is("clearText() of " + text, x.clearText(), text.length());
    }

    private static void startOfText() {
        error("", 0);
        error("a", 0);
        error("w04", 0);
        error("A", -1);
        error("AA", 1);
        error("A ", 1);
        error("A" + (char) 0, 1);
        error("A" + (char) 255, 1);
        error("A0", 1);
    }

    private static void commandsOfText() {
        String[] right = {"w04", "w09", "w10", "w29", "w30", "o0000", "o3294", "d010", "d593", "p0000", "p9329",
            "l0", "l9", "s00", "s99", "n01", "n60", "n59", "e000", "e550", "e049"};
        StringBuilder all = new StringBuilder("A");
        for (String command : right) {
            error("A" + command, -1);
            all.append(command);
        }
        error(all.toString(), -1);
        String[] wrong = {"w4x", "w03", "w31", "w40", "o4", "o030", "o03x", "o0005", "o000:", "d6", "d00", "d0a",
            "d014", "d01/", "p04", "p003", "p000a", "pa", "l:", "s0a", "sa", "n00", "n61", "n7", "e6", "e06", "e051",
            "w0:", "e05/", "w04w04 ", "w04A", "o00 "};
        int[] at = {1, 2, 2, 1, 1, 2, 2, 4, 4, 1, 2, 2,
            3, 3, 2, 3, 4, 1, 1, 2, 1, 2, 2, 1, 1, 2, 3,
            2, 3, 6, 3, 3};
        for (int i = 0; i < wrong.length; i++) {
            error("A" + wrong[i], at[i] + 1);
            error("Aw04" + wrong[i], at[i] + 4);
        }
    }

    private static void endOfText() {
        for (String command : new String[] {"w30", "o0294", "d593", "p9329", "l9", "s99", "n60", "e550"}) {
            for (int length = 1; length < command.length(); length++) {
                error("Al0" + command.substring(0, length), 3 + length);
            }
        }
        StringBuilder full = new StringBuilder("A");
        while (full.length() < 119) {
            full.append("l0");
        }
        error(full + "l", 120);
        FairWalls x = new FairWalls();
        Due.write(x, "Aw04w05");
        Due.write(x, "Aw04w");
        Due.is("a shorter text over a longer one", x.errorPosition(), 5);
        Due.write(x, "Aw0");
        Due.is("a still shorter one", x.errorPosition(), 3);
        Due.write(x, "");
        Due.is("none over a longer one", x.errorPosition(), 0);
        error(full.substring(0, 117) + "w04", -1);
    }

    private static void loading() {
        FairWalls x = new FairWalls();
        x.wall(30);
        x.set(0, 50);
        Due.write(x, "Aw10o0022d132d121p0000p1003n02e009p1003");
        Due.is("load()", x.load(), 1);
        Due.is("load: walls", x.about(0), 1);
        Due.is("load: length", x.wallOf(0, 0), 10);
        Due.is("load: plugs", x.metreOf(0, 2, 0), 2);
        Due.is("load: dealers", x.about(1), 2);
        Due.is("load: dealer 0 at", x.dealerOf(0, 4), 0);
        Due.is("load: dealer 1 at", x.dealerOf(1, 4), 3);
        Due.is("load: day", x.about(10), 2);
        Due.is("load: setting", x.setting(0), 9);
        Due.is("load: owed", x.dealerOf(0, 8), 2 * (29 - 7));
        Due.is("load: text kept", x.clearText(), 39);
        FairWalls y = new FairWalls();
        Due.write(y, "Aw10d010d010p0000p1005s01s10l1");
        Due.is("no command is left out", y.load(), 0);
        Due.is("text swaps", y.dealerOf(0, 4), 0);
        Due.is("text leaves", y.dealerOf(1, 3), FairWalls.NONE);
        Due.is("text counts swaps", y.about(11), 2);
    }

    private static void leavingOut() {
        FairWalls x = new FairWalls();
        Due.write(x, "Aw04w04w04w04w04");
        Due.is("a fifth wall is left out", x.load(), 1);
        Due.write(x, "Ad010d010d010d010d010d010d010d010d010d010d010d010");
        Due.is("two dealers are left out", x.load(), 2);
        Due.write(x, "Aw04o0041o1001o0031");
        Due.is("outlets are left out", x.load(), 2);
        Due.write(x, "Aw05d020p1000p0100p0005p0004p0003p0000");
        Due.is("places are left out", x.load(), 5);
        Due.is("places refused in a text count nowhere", x.about(12), 0);
        Due.is("the place that could be", x.dealerOf(0, 4), 3);
        Due.write(x, "Ad020l0l1s00s01");
        Due.is("leaves and swaps are left out", x.load(), 4);
        Due.is("swaps refused in a text count nowhere", x.about(12), 0);
        Due.write(x, "Ae110e109e510e509e050");
        Due.is("settings are left out", x.load(), 2);
        Due.is("setting 1 of the text", x.setting(1), 9);
        Due.is("setting 5 of the text", x.setting(5), 9);
        Due.is("setting 0 of the text", x.setting(0), 50);
    }

    private static void loadingForgets() {
        FairWalls x = new FairWalls();
        x.wall(7);
        x.save(0);
        x.save(1);
        x.place(x.dealer(0, 9, 0), 0, 0);
        Due.is("a refusal", x.about(12), 1);
        x.outlet(0, 0, 1);
        x.place(x.dealer(0, 1, 1), 0, 0);
        x.days(3);
        x.dealer(0, 1, 0);
        x.place(2, 0, 1);
        x.swap(1, 2);
        Due.is("a day", x.about(10), 3);
        Due.is("a swap", x.about(11), 1);
        Due.write(x, "Aw04");
        Due.is("load() left out", x.load(), 0);
        Due.is("day behind load", x.about(10), 0);
        Due.is("swaps behind load", x.about(11), 0);
        Due.is("plugs behind load", x.metreOf(0, 0, 0), 0);
        Due.is("plugs taken behind load", x.metreOf(0, 0, 1), 0);
        Due.noState("undo behind load", x::undo);
        Due.noState("restore(0) behind load", () -> x.restore(0));
        Due.noState("restore(1) behind load", () -> x.restore(1));
        Due.is("refusals behind load", x.about(12), 0);
        Due.is("dealers behind load", x.about(1), 0);
        x.wall(5);
        Due.is("load() again", x.load(), 0);
        Due.is("walls behind load again", x.about(0), 1);
        Due.is("plugs behind load again", x.about(5), 0);
    }

    private static void loadingNoFair() {
        FairWalls x = new FairWalls();
        x.wall(7);
        x.save(1);
        Due.write(x, "Aw04w");
        Due.noState("load() of no fair", x::load);
        Due.is("a load that throws changes nothing", x.wallOf(0, 0), 7);
        Due.is("and keeps the slots", x.restore(1), 0);
        x.wall(8);
        Due.noState("load() of no fair again", x::load);
        Due.is("and keeps the remembered states", x.undo(), 0);
        Due.is("and keeps the text", x.clearText(), 5);
    }
}
