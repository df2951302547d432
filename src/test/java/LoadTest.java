/** Promise 5 at its edges: each reason for which a command of the text is left out, and the command just inside. */
public final class LoadTest {
    private static final int NONE = FairWalls.NONE;

    public static void main(String[] args) {
        nothingLeftOut();
        wallsAndDealers();
        outlets();
        places();
        leavesAndSwaps();
        settings();
        days();
        fromLeftToRight();
        refusedNowhere();
        asInANewObject();
        sameTextAgain();
        Due.end();
    }

    private static void leftOut(String text, int due) {
        FairWalls x = new FairWalls();
        Due.write(x, text);
        Due.is("load() of " + text, x.load(), due);
        Due.is("refused in " + text, x.about(12), 0);
        Due.noState("undo() behind " + text, x::undo);
        Due.is("load() keeps " + text, x.clearText(), text.length());
    }

    private static void nothingLeftOut() {
        leftOut("A", 0);
        leftOut("Aw04", 0);
        leftOut("Aw30o0294d593p0021n60e050s00", 1);
        leftOut("Aw30o0294d593p0021n60e050l0", 0);
    }

    private static void wallsAndDealers() {
        leftOut("Aw04w30w04w30", 0);
        leftOut("Aw04w30w04w30w04", 1);
        leftOut("Aw04w30w04w30w04w05", 2);
        String nine = "Ad010d593d010d593d010d593d010d593d010";
        leftOut(nine, 0);
        leftOut(nine + "d593", 0);
        leftOut(nine + "d593d593", 1);
        leftOut(nine + "d593d593d010", 2);
    }

    private static void outlets() {
        leftOut("Ao0000", 1);
        leftOut("Aw04o0000o0034", 0);
        leftOut("Aw04o0044", 1);
        leftOut("Aw04o1000", 1);
        leftOut("Aw04w29w04w30o3294o1284", 0);
        leftOut("Aw04w29w04w30o1294o2040", 2);
        leftOut("Aw04w04w04o2000", 0);
        leftOut("Aw04w04w04o3000", 1);
    }

    private static void places() {
        leftOut("Aw04p0000", 1);
        leftOut("Ad010p0000", 1);
        leftOut("Aw04d010p0003", 0);
        leftOut("Aw04d010p0004", 1);
        leftOut("Aw04d010p0100", 1);
        leftOut("Aw04d010p1000", 1);
        leftOut("Aw04d010p0000p0000", 1);
        leftOut("Aw04d010p0000p0001", 1);
        leftOut("Aw04d040p0000", 0);
        leftOut("Aw04d040p0001", 1);
        leftOut("Aw04d050p0000", 1);
        leftOut("Aw30d090p0021", 0);
        leftOut("Aw30d090p0022", 1);
        leftOut("Aw04d020d020p0000p1002", 0);
        leftOut("Aw04d020d020p0000p1001", 1);
        leftOut("Aw04d020d020p0002p1001", 1);
        leftOut("Aw04d010d010d010d010d010d010d010d010d010d010p9000", 0);
    }

    private static void leavesAndSwaps() {
        leftOut("Al0", 1);
        leftOut("Aw04d010l0", 1);
        leftOut("Aw04d010p0000l0", 0);
        leftOut("Aw04d010p0000l0l0", 1);
        leftOut("Aw04d010p0000l1", 1);
        leftOut("As00", 1);
        leftOut("As01", 1);
        leftOut("Aw04d010p0000s00", 1);
        leftOut("Aw04d010p0000s01", 1);
        leftOut("Aw04d010p0000s10", 1);
        leftOut("Aw04d010d010p0000s01", 1);
        leftOut("Aw04d010d010p0000s10", 1);
        leftOut("Aw04d010d010p0000p1003s01s10", 0);
        leftOut("Aw04d010d010p0000p1003s01s10s01", 1);
        leftOut("Aw04d010d010p0000p1003s01s10n01s01", 0);
        leftOut("Aw04d010d010p0000p1003e500s01", 1);
        leftOut("Aw05d020d010p0000p1003s01", 0);
        leftOut("Aw05d020d010p0000p1004s01", 1);
        leftOut("Aw05d020d010p0000p1004s10", 1);
        leftOut("Aw05d020d010p0001p1000s01", 1);
    }

    private static void settings() {
        leftOut("Ae000e050e200e250e300e350e400e450", 0);
        leftOut("Ae100e109e500e509", 0);
        leftOut("Ae110", 1);
        leftOut("Ae510", 1);
        leftOut("Ae150e550", 2);
    }

    private static void days() {
        leftOut("An01", 0);
        leftOut("An60n60", 0);
        FairWalls x = Due.fair("Aw04d040p0000n01n60");
        Due.is("days of a text", x.about(10), 61);
        Due.is("owed in a text", x.dealerOf(0, 8), 61 * 34);
        Due.is("owed in a text, together", x.about(9), 61 * 34);
    }

    private static void fromLeftToRight() {
        leftOut("Ao0001w04", 1);
        leftOut("Ap0000w04d010", 1);
        leftOut("Aw04p0000d010l0", 2);
        Due.is("the last number holds", Due.fair("Ae001e002").setting(0), 2);
        Due.is("the last plugs hold", Due.fair("Aw04o0034o0031").metreOf(0, 3, 0), 1);
        Due.is("days ahead of the place", Due.fair("Aw04d010n05p0000n01").dealerOf(0, 8), 11);
        Due.is("placed anew", Due.fair("Aw09d010p0000l0p0008").dealerOf(0, 4), 8);
        Due.is("what comes behind one that is left out", Due.fair("Aw04w04w04w04w04d010p0303").dealerOf(0, 3), 3);
    }

    private static void refusedNowhere() {
        FairWalls x = new FairWalls();
        Due.write(x, "Aw04d040d010p0001p0000p0000p1000s01s10e500s01");
        Due.is("six are left out", x.load(), 6);
        Due.is("no refusal counts", x.about(12), 0);
        Due.is("no swap counts", x.about(11), 0);
        x.place(0, 0, 0);
        Due.is("one that comes later counts", x.about(12), 1);
    }

    private static void asInANewObject() {
        FairWalls x = Due.fair("Aw09o0004d593d010p0000e050e109e250e350e450e509n07");
        x.place(1, 0, 0);
        x.save(0);
        x.save(1);
        x.days(2);
        Due.write(x, "Aw04d010p0000");
        Due.is("load() over another fair", x.load(), 0);
        int[] about = {1, 1, 1, 4, 3, 0, 0, 0, 11, 0, 0, 0, 0, 0};
        for (int what = 0; what <= 13; what++) {
            Due.is("load() over another fair: about(" + what + ")", x.about(what), about[what]);
        }
        int[] settings = {6, 1, 5, 3, 4, 2};
        for (int what = 0; what <= 5; what++) {
            Due.is("load() over another fair: setting(" + what + ")", x.setting(what), settings[what]);
        }
        int[] dealer = {0, 1, 0, 0, 0, 0, 0, 11, 0, 1, 0, 0};
        for (int what = 0; what <= 11; what++) {
            Due.is("load() over another fair: dealerOf(0, " + what + ")", x.dealerOf(0, what), dealer[what]);
        }
        Due.is("load() over another fair: plugs", x.metreOf(0, 0, 0), 0);
        Due.noState("load() over another fair: undo()", x::undo);
        Due.noState("load() over another fair: restore(0)", () -> x.restore(0));
        Due.noState("load() over another fair: restore(1)", () -> x.restore(1));
        Due.is("load() is no action: the first one behind it", x.wall(30), 1);
        Due.is("is all that is taken back", x.undo(), 0);
        Due.is("one wall is left", x.about(0), 1);
        Due.is("and one dealer", x.dealerOf(0, 3), 0);
    }

    private static void sameTextAgain() {
        FairWalls x = new FairWalls();
        Due.write(x, "Aw04d010p0003l1");
        for (int i = 0; i < 3; i++) {
            Due.is("load() again", x.load(), 1);
            Due.is("walls of it", x.about(0), 1);
            Due.is("dealers of it", x.about(1), 1);
            Due.is("its place", x.dealerOf(0, 4), 3);
            x.leave(0);
            x.wall(4);
        }
        x.append('w');
        Due.noState("load() of more, which is no fair", x::load);
        Due.is("the fair stays as it is", x.about(0), 2);
        Due.is("nobody stands", x.dealerOf(0, 4), NONE);
        Due.is("the text stays too", x.errorPosition(), 16);
    }
}
