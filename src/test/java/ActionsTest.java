/** Promises 13 to 21: wall, outlet, dealer, place, leave, swap, days, set, undo. */
public final class ActionsTest {
    public static void main(String[] args) {
        walls();
        outlets();
        dealers();
        places();
        leaving();
        swaps();
        swapReasons();
        swapsOfDays();
        days();
        sets();
        undoing();
        rememberingFourteen();
        undoingEach();
        notRemembering();
        Due.end();
    }

    private static void walls() {
        FairWalls x = new FairWalls();
        Due.noArgument("wall(3)", () -> x.wall(3));
        Due.noArgument("wall(31)", () -> x.wall(31));
        Due.is("wall(4)", x.wall(4), 0);
        Due.is("wall(30)", x.wall(30), 1);
        Due.is("wall(5)", x.wall(5), 2);
        Due.is("wall(6)", x.wall(6), 3);
        Due.noState("a fifth wall", () -> x.wall(6));
        Due.noArgument("a fifth wall of 31", () -> x.wall(31));
        Due.is("walls", x.about(0), 4);
        Due.is("all metres", x.about(3), 45);
        Due.is("no plugs at first", x.about(5), 0);
    }

    private static void outlets() {
        FairWalls x = Due.fair("Aw04w10");
        Due.is("outlet(0, 3, 4)", x.outlet(0, 3, 4), 0);
        Due.is("outlet(0, 3, 0)", x.outlet(0, 3, 0), 4);
        Due.is("outlet(1, 9, 1)", x.outlet(1, 9, 1), 0);
        Due.is("the other metre", x.metreOf(1, 8, 0), 0);
        Due.noSuch("outlet(2, 0, 0)", () -> x.outlet(2, 0, 0));
        Due.noSuch("outlet(-1, 0, 0)", () -> x.outlet(-1, 0, 0));
        Due.noSuch("outlet(0, 4, 0)", () -> x.outlet(0, 4, 0));
        Due.noSuch("outlet(0, -1, 0)", () -> x.outlet(0, -1, 0));
        Due.noSuch("outlet(0, 4, 5)", () -> x.outlet(0, 4, 5));
        Due.noArgument("outlet(0, 3, 5)", () -> x.outlet(0, 3, 5));
        Due.noArgument("outlet(0, 3, -1)", () -> x.outlet(0, 3, -1));
        Due.is("plugs of all", x.about(5), 1);
    }

    private static void dealers() {
        FairWalls x = new FairWalls();
        Due.noArgument("dealer(6, 1, 0)", () -> x.dealer(6, 1, 0));
        Due.noArgument("dealer(-1, 1, 0)", () -> x.dealer(-1, 1, 0));
        Due.noArgument("dealer(0, 0, 0)", () -> x.dealer(0, 0, 0));
        Due.noArgument("dealer(0, 10, 0)", () -> x.dealer(0, 10, 0));
        Due.noArgument("dealer(0, 1, 4)", () -> x.dealer(0, 1, 4));
        Due.noArgument("dealer(0, 1, -1)", () -> x.dealer(0, 1, -1));
        for (int d = 0; d < 10; d++) {
            Due.is("dealer " + d, x.dealer(d % 6, d % 9 + 1, d % 4), d);
        }
        Due.is("goods of 9", x.dealerOf(9, 0), 3);
        Due.is("frontage of 8", x.dealerOf(8, 1), 9);
        Due.is("plugs of 7", x.dealerOf(7, 2), 3);
        Due.is("wall of 9", x.dealerOf(9, 3), FairWalls.NONE);
        Due.noState("an eleventh dealer", () -> x.dealer(0, 1, 0));
        Due.noArgument("an eleventh dealer with goods 6", () -> x.dealer(6, 1, 0));
    }

    private static void places() {
        FairWalls x = Due.fair("Aw10w04d030d020d010d040");
        Due.is("place at the start", x.place(0, 0, 0), 0);
        Due.is("place just behind", x.place(1, 0, 3), 0);
        Due.is("stands somewhere, though it is beyond", x.place(0, 1, 3), 1);
        Due.is("beyond the wall, though somebody is there", x.place(3, 1, 1), 2);
        Due.is("beyond by one", x.place(3, 0, 7), 2);
        Due.is("beyond, though somebody stands there", x.place(3, 0, 7), 2);
        Due.is("somebody at its first metre", x.place(2, 0, 4), 3);
        Due.is("somebody at its last metres", x.place(3, 0, 4), 3);
        Due.is("the end of the wall", x.place(3, 0, 6), 0);
        Due.is("one metre between", x.place(2, 0, 5), 0);
        Due.is("refusals", x.about(12), 6);
        Due.is("its place", x.dealerOf(2, 4), 5);
        Due.noSuch("place(4, 0, 0)", () -> x.place(4, 0, 0));
        Due.noSuch("place(-1, 0, 0)", () -> x.place(-1, 0, 0));
        Due.noSuch("place(0, 2, 0)", () -> x.place(0, 2, 0));
        Due.noSuch("place(0, -1, 0)", () -> x.place(0, -1, 0));
        Due.noSuch("place(0, 1, 4)", () -> x.place(0, 1, 4));
        Due.noSuch("place(0, 0, -1)", () -> x.place(0, 0, -1));
        FairWalls y = Due.fair("Aw10d050d030p0003");
        Due.is("somebody in the middle", y.place(1, 0, 2), 3);
        Due.is("beyond comes before somebody", Due.fair("Aw05d050d010p1004").place(0, 0, 1), 2);
        FairWalls z = Due.fair("Aw10d010d050p0005");
        Due.is("somebody small within", z.place(1, 0, 3), 3);
    }

    private static void leaving() {
        FairWalls x = Due.fair("Aw10d030d010p0000n02");
        Due.is("leave(0)", x.leave(0), 2 * 23);
        Due.is("stands nowhere", x.dealerOf(0, 3), FairWalls.NONE);
        Due.is("its metre is free", x.metreOf(0, 0, 2), FairWalls.NONE);
        Due.noState("leave(0) again", () -> x.leave(0));
        Due.noState("leave(1)", () -> x.leave(1));
        Due.noSuch("leave(2)", () -> x.leave(2));
        Due.noSuch("leave(-1)", () -> x.leave(-1));
        x.days(1);
        x.place(0, 0, 1);
        x.days(1);
        Due.is("leave(0) later", x.leave(0), 2 * 23 + 18);
    }

    private static void swaps() {
        FairWalls x = Due.fair("Aw10w06d020d030d010p0001p1102p2007");
        Due.is("swap(0, 1)", x.swap(0, 1), 0);
        Due.is("0 goes to the wall of 1", x.dealerOf(0, 3), 1);
        Due.is("0 goes to the metre of 1", x.dealerOf(0, 4), 2);
        Due.is("1 goes to the wall of 0", x.dealerOf(1, 3), 0);
        Due.is("1 goes to the metre of 0", x.dealerOf(1, 4), 1);
        Due.is("swaps of the day", x.about(11), 1);
        Due.is("swap(2, 1)", x.swap(2, 1), 0);
        Due.is("on one wall: 2", x.dealerOf(2, 4), 1);
        Due.is("on one wall: 1", x.dealerOf(1, 4), 7);
        Due.noSuch("swap(3, 0)", () -> x.swap(3, 0));
        Due.noSuch("swap(0, 3)", () -> x.swap(0, 3));
        Due.noSuch("swap(-1, 0)", () -> x.swap(-1, 0));
        Due.noSuch("swap(0, -1)", () -> x.swap(0, -1));
        Due.noSuch("swap(3, 3)", () -> x.swap(3, 3));
        Due.noArgument("swap(0, 0)", () -> x.swap(0, 0));
        Due.is("refused so far", x.about(12), 0);
    }

    private static void swapReasons() {
        FairWalls x = Due.fair("Aw10d030d010d010p0002p1009e502");
        Due.is("the second one stands nowhere", x.swap(0, 2), 1);
        Due.is("the first one stands nowhere", x.swap(2, 0), 1);
        Due.is("the first one does not fit", x.swap(0, 1), 3);
        Due.is("the second one does not fit", x.swap(1, 0), 4);
        x.set(5, 0);
        Due.is("as many swaps as allowed", x.swap(0, 1), 2);
        Due.is("nowhere comes before that", x.swap(0, 2), 1);
        Due.is("refusals", x.about(12), 6);
        Due.is("nobody moved", x.dealerOf(0, 4), 2);
        Due.is("no swap counts", x.about(11), 0);
        FairWalls y = Due.fair("Aw10d020d030d010p0000p1002p2005");
        Due.is("the first one's new pitch is in the way", y.swap(0, 1), 4);
        Due.is("the second one's pitch may be in the way", y.swap(1, 0), 4);
        Due.is("side by side the shorter one fits", y.swap(1, 2), 0);
        y.undo();
        y.dealer(0, 1, 0);
        y.place(3, 0, 6);
        Due.is("somebody else in the first one's way", y.swap(0, 2), 3);
        Due.is("somebody else in the second one's way", y.swap(2, 0), 4);
        Due.is("in the way of both: the first one", y.swap(1, 2), 3);
        FairWalls z = Due.fair("Aw04w09d040d010d010p0000p1103p2101");
        Due.is("it may stand on its old metres", z.swap(1, 2), 0);
        Due.is("another wall is not in the way", z.swap(0, 2), 0);
    }

    private static void swapsOfDays() {
        FairWalls x = Due.fair("Aw10d010d010p0000p1005");
        Due.is("the first swap", x.swap(0, 1), 0);
        Due.is("the second swap", x.swap(0, 1), 0);
        Due.is("the third swap", x.swap(0, 1), 2);
        x.set(5, 3);
        Due.is("the third swap, when three are allowed", x.swap(1, 0), 0);
        x.set(5, 1);
        Due.is("more than are allowed", x.swap(1, 0), 2);
        x.days(1);
        Due.is("a new day", x.swap(1, 0), 0);
        Due.is("swaps of the new day", x.about(11), 1);
    }

    private static void days() {
        FairWalls x = Due.fair("Aw10d030d210d020p0000p1003");
        Due.noArgument("days(0)", () -> x.days(0));
        Due.noArgument("days(-1)", () -> x.days(-1));
        Due.noArgument("days(61)", () -> x.days(61));
        Due.is("days(1)", x.days(1), 23 + 6);
        Due.is("days(60)", x.days(60), 60 * (23 + 6));
        Due.is("the day", x.about(10), 61);
        Due.is("owed by 0", x.dealerOf(0, 8), 61 * 23);
        Due.is("owed by 1", x.dealerOf(1, 8), 61 * 6);
        Due.is("owed by 2, who stands nowhere", x.dealerOf(2, 8), 0);
        Due.is("owed", x.about(9), 61 * 29);
        x.leave(0);
        Due.is("days(2)", x.days(2), 12);
        Due.is("owed by 0 still", x.dealerOf(0, 8), 61 * 23);
    }

    private static void sets() {
        FairWalls x = new FairWalls();
        int[] atFirst = {6, 1, 5, 3, 4, 2};
        int[] most = {50, 9, 50, 50, 50, 9};
        for (int i = 0; i <= 5; i++) {
            int what = i;
            Due.is("set(" + what + ", most)", x.set(what, most[what]), atFirst[what]);
            Due.is("set(" + what + ", 0)", x.set(what, 0), most[what]);
            Due.noArgument("set(" + what + ", too much)", () -> x.set(what, most[what] + 1));
            Due.noArgument("set(" + what + ", -1)", () -> x.set(what, -1));
            Due.is("setting(" + what + ")", x.setting(what), 0);
        }
        Due.noArgument("set(6, 0)", () -> x.set(6, 0));
        Due.noArgument("set(-1, 0)", () -> x.set(-1, 0));
    }

    private static void undoing() {
        FairWalls x = new FairWalls();
        Due.noState("undo() of nothing", x::undo);
        x.wall(10);
        x.outlet(0, 0, 2);
        x.dealer(0, 3, 1);
        x.place(0, 0, 0);
        x.place(0, 0, 0);
        Due.is("a refusal", x.about(12), 1);
        Due.is("undo a refused place", x.undo(), 4);
        Due.is("no refusal", x.about(12), 0);
        Due.is("still there", x.dealerOf(0, 5), 1);
        Due.is("undo the place", x.undo(), 3);
        Due.is("nowhere", x.dealerOf(0, 3), FairWalls.NONE);
        Due.is("has no plug", x.metreOf(0, 0, 1), 0);
        x.days(1);
        Due.is("undo the day", x.undo(), 3);
        Due.is("day 0", x.about(10), 0);
        Due.is("undo the dealer", x.undo(), 2);
        Due.is("no dealer", x.about(1), 0);
        Due.is("undo the plugs", x.undo(), 1);
        Due.is("no plugs", x.about(5), 0);
        Due.is("undo the wall", x.undo(), 0);
        Due.is("no wall", x.about(0), 0);
        Due.noState("undo() of nothing more", x::undo);
    }

    private static void rememberingFourteen() {
        FairWalls x = new FairWalls();
        x.wall(10);
        for (int v = 1; v <= 20; v++) {
            x.set(0, v);
        }
        for (int left = 13; left >= 0; left--) {
            Due.is("undo()", x.undo(), left);
            Due.is("setting(0)", x.setting(0), 7 + left - 1);
        }
        Due.noState("the oldest are forgotten", x::undo);
        Due.is("the wall stays", x.about(0), 1);
        x.set(0, 1);
        x.set(0, 2);
        Due.is("undo() anew", x.undo(), 1);
        Due.is("setting(0) anew", x.setting(0), 1);
    }

    /** Each of the actions is remembered, also if nothing becomes different. */
    private static void undoingEach() {
        FairWalls x = Due.fair("Aw10w10d010d010p0000p1005");
        x.wall(4);
        Due.is("undo wall", x.undo(), 0);
        x.outlet(0, 0, 0);
        Due.is("undo outlet", x.undo(), 0);
        x.dealer(0, 1, 0);
        Due.is("undo dealer", x.undo(), 0);
        x.place(0, 0, 0);
        Due.is("undo place", x.undo(), 0);
        x.leave(0);
        Due.is("undo leave", x.undo(), 0);
        x.swap(0, 1);
        Due.is("undo swap", x.undo(), 0);
        Due.is("no swaps", x.about(11), 0);
        x.set(5, 0);
        x.swap(0, 1);
        Due.is("undo a refused swap", x.undo(), 1);
        Due.is("undo set", x.undo(), 0);
        x.days(1);
        Due.is("undo days", x.undo(), 0);
        Due.is("nothing owed", x.about(9), 0);
        x.set(0, 6);
        Due.is("undo a set of the same", x.undo(), 0);
        Due.is("walls as before", x.about(3), 20);
        Due.is("places as before", x.about(2), 2);
    }

    private static void notRemembering() {
        FairWalls x = Due.fair("Aw10w10w10w10d010d010");
        Due.noArgument("wall(3)", () -> x.wall(3));
        Due.noState("wall(4)", () -> x.wall(4));
        Due.noArgument("outlet(0, 0, 5)", () -> x.outlet(0, 0, 5));
        Due.noArgument("dealer(9, 1, 0)", () -> x.dealer(9, 1, 0));
        Due.noSuch("place(0, 0, 10)", () -> x.place(0, 0, 10));
        Due.noState("leave(0)", () -> x.leave(0));
        Due.noArgument("swap(0, 0)", () -> x.swap(0, 0));
        Due.noArgument("days(0)", () -> x.days(0));
        Due.noArgument("set(0, 51)", () -> x.set(0, 51));
        x.rentIf(0, 0, 0);
        x.cheapest(0, 0);
        x.bestSwap(0);
        x.why(0, 1);
        x.runScript(1, 10000);
        x.simulate(1, 60);
        x.save(0);
        x.append('A');
        x.clearText();
        Due.noState("nothing is remembered", x::undo);
        Due.is("nothing has changed", x.about(2) + x.about(10) + x.about(12), 0);
    }
}
