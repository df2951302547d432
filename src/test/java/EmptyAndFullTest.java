/** The empty and the full: no wall, 4 walls, no dealer, 10 dealers, pitches that fill walls, full text and memory. */
public final class EmptyAndFullTest {
    private static final int NONE = FairWalls.NONE;

    public static void main(String[] args) {
        nothing();
        dealersButNoWall();
        wallsButNoDealer();
        fourWalls();
        fourWallsInText();
        tenDealers();
        lastDealers();
        tenDealersInText();
        fourMetresFilled();
        nineMetresFilled();
        filledByMany();
        longestWall();
        shortestWall();
        fullText();
        emptyText();
        fourteenStates();
        fifteenStates();
        statesTakenAndGiven();
        slots();
        loadingNothing();
        Due.end();
    }

    private static void nothing() {
        FairWalls x = new FairWalls();
        for (int what = 0; what <= 13; what++) {
            Due.is("nothing: about(" + what + ")", x.about(what), 0);
        }
        Due.is("nothing: bestSwap(0)", x.bestSwap(0), NONE);
        Due.is("nothing: bestSwap(1)", x.bestSwap(1), NONE);
        Due.is("nothing: runScript of days", x.runScript(1, 40060), NONE);
        Due.is("nothing: runScript of set", x.runScript(1, 50000), NONE);
        int[] failing = {10000, 20100, 30000, 60000, 70099, 80000, 90000};
        for (int command : failing) {
            Due.is("nothing: runScript(1, " + command + ")", x.runScript(1, command), 0);
        }
        Due.is("nothing: save(1)", x.save(1), 0);
        Due.is("nothing: days(60)", x.days(60), 0);
        Due.is("nothing: the day", x.about(10), 60);
        Due.is("nothing: undo()", x.undo(), 0);
        Due.is("nothing: the day taken back", x.about(10), 0);
        Due.is("nothing: restore(1)", x.restore(1), 0);
        Due.is("nothing: clearText()", x.clearText(), 0);
    }

    private static void dealersButNoWall() {
        FairWalls x = Due.fair("Ad313d313");
        Due.is("no wall: about(2)", x.about(2), 0);
        Due.is("no wall: about(7)", x.about(7), 0);
        Due.is("no wall: cheapest(0, 0)", x.cheapest(0, 0), NONE);
        Due.is("no wall: cheapest(1, 1)", x.cheapest(1, 1), NONE);
        Due.is("no wall: bestSwap(0)", x.bestSwap(0), NONE);
        Due.is("no wall: why(0, 1)", x.why(0, 1), 1);
        Due.is("no wall: swap(1, 0)", x.swap(1, 0), 1);
        Due.is("no wall: days(1)", x.days(1), 0);
        Due.is("no wall: plugOf(0, 0)", x.plugOf(0, 0), NONE);
        Due.is("no wall: dealerOf(0, 3)", x.dealerOf(0, 3), NONE);
        Due.is("no wall: runScript: a rent of 0", x.runScript(1, 70000), NONE);
        Due.is("no wall: runScript: 0 plugs", x.runScript(1, 81000), NONE);
        Due.is("no wall: runScript: 1 plug", x.runScript(1, 81001), 0);
    }

    private static void wallsButNoDealer() {
        FairWalls x = Due.fair("Aw07o0064");
        int[] about = {1, 0, 0, 7, 7, 4, 0, 0, 0, 0, 0, 0, 0, 0};
        for (int what = 0; what <= 13; what++) {
            Due.is("no dealer: about(" + what + ")", x.about(what), about[what]);
        }
        int[] wall = {7, 0, 4, 0, 7, 0};
        for (int what = 0; what <= 5; what++) {
            Due.is("no dealer: wallOf(0, " + what + ")", x.wallOf(0, what), wall[what]);
        }
        Due.is("no dealer: metreOf(0, 6, 0)", x.metreOf(0, 6, 0), 4);
        Due.is("no dealer: metreOf(0, 6, 1)", x.metreOf(0, 6, 1), 0);
        Due.is("no dealer: metreOf(0, 6, 2)", x.metreOf(0, 6, 2), NONE);
        Due.is("no dealer: free(0, 0)", x.free(0, 0), 7);
        Due.is("no dealer: free(0, 1)", x.free(0, 1), 7);
        Due.is("no dealer: bestSwap(1)", x.bestSwap(1), NONE);
        Due.is("no dealer: days(60)", x.days(60), 0);
        Due.is("no dealer: runScript: 7 free metres", x.runScript(1, 90007), NONE);
        Due.is("no dealer: runScript: 8 free metres", x.runScript(1, 90008), 0);
    }

    private static void fourWalls() {
        FairWalls x = new FairWalls();
        int[] lengths = {30, 4, 29, 5};
        for (int w = 0; w < 4; w++) {
            Due.is("wall " + w, x.wall(lengths[w]), w);
            Due.is("walls behind wall " + w, x.about(0), w + 1);
            Due.is("length of wall " + w, x.wallOf(w, 0), lengths[w]);
            for (int m = 0; m < lengths[w]; m++) {
                Due.is("plugs at first of " + w + ", " + m, x.metreOf(w, m, 0), 0);
            }
        }
        Due.noState("a fifth wall", () -> x.wall(4));
        Due.is("4 walls: all metres", x.about(3), 68);
        Due.is("4 walls: outlet at the last one", x.outlet(3, 4, 4), 0);
        Due.is("4 walls: its plugs", x.wallOf(3, 2), 4);
        Due.is("4 walls: all plugs", x.about(5), 4);
        x.outlet(0, 29, 3);
        Due.is("4 walls: the last metre of 30", x.metreOf(0, 29, 0), 3);
        Due.is("4 walls: the first metre of the next wall", x.metreOf(1, 0, 0), 0);
        Due.is("4 walls: all plugs again", x.about(5), 7);
        x.dealer(0, 5, 3);
        Due.is("4 walls: rentIf at the last one", x.rentIf(0, 3, 0), 30 + 10 + 9);
        Due.is("4 walls: place at the last one", x.place(0, 3, 0), 0);
        Due.is("4 walls: free metres", x.about(4), 63);
        Due.is("4 walls: the wall of the dealer", x.dealerOf(0, 3), 3);
        Due.is("4 walls: undo the place", x.undo(), 7);
        Due.is("4 walls: cheapest", x.cheapest(0, 1), 30 - 12);
        Due.is("4 walls: simulate a wall", x.simulate(TurnSeeds.of(0, 0), 1), 4);
    }

    private static void fourWallsInText() {
        FairWalls x = new FairWalls();
        Due.write(x, "Aw04w05w06w30");
        Due.is("4 walls: load()", x.load(), 0);
        Due.is("4 walls: the last one", x.wallOf(3, 0), 30);
        Due.write(x, "Aw04w05w06w30w07o3294");
        Due.is("5 walls: load()", x.load(), 1);
        Due.is("5 walls: 4 stay", x.about(0), 4);
        Due.is("5 walls: what follows is done", x.metreOf(3, 29, 0), 4);
    }

    private static void tenDealers() {
        FairWalls x = new FairWalls();
        x.wall(30);
        for (int d = 0; d < 10; d++) {
            Due.is("dealer " + d, x.dealer(d % 6, d % 9 + 1, d % 4), d);
            Due.is("dealers behind dealer " + d, x.about(1), d + 1);
        }
        Due.noState("an eleventh dealer", () -> x.dealer(0, 1, 0));
        Due.is("10 dealers", x.about(1), 10);
        for (int d = 0; d < 10; d++) {
            int[] want = {d % 6, d % 9 + 1, d % 4, NONE, NONE, 0, 0, 0, 0, 0, 0, 0};
            for (int what = 0; what <= 11; what++) {
                Due.is("dealerOf(" + d + ", " + what + ")", x.dealerOf(d, what), want[what]);
            }
        }
        Due.is("place(9)", x.place(9, 0, 29), 0);
        Due.is("the last metre is of 9", x.metreOf(0, 29, 2), 9);
        Due.is("10 dealers: simulate a dealer", x.simulate(TurnSeeds.of(3, 0), 1), 1000 * (6 + 5 - 4) + 10 + 1);
    }

    /** All ten stand, the last two can gain by a swap. */
    private static void lastDealers() {
        FairWalls x = Due.fair("Aw30d210d210d210d210d210d210d210d210d010d111o0291"
                + "p0000p1002p2004p3006p4008p5010p6012p7014p8029p9020");
        Due.is("10 who stand", x.about(2), 10);
        Due.is("all the rents", x.about(8), 9 * 6 + 5 + 5 + 6 - 4);
        Due.is("why(8, 9)", x.why(8, 9), 0);
        Due.is("the best swap is of the last two", x.bestSwap(0), 89);
        Due.is("its rents", x.bestSwap(1), 10 * 6 + 5 + 5 + 3);
        Due.is("swap(8, 9)", x.swap(8, 9), 0);
        Due.is("the plug of 9", x.plugOf(9, 0), 29);
        Due.is("days(1)", x.days(1), 73);
        Due.is("owed by 9", x.dealerOf(9, 8), 14);
        Due.is("rentIf(9)", x.rentIf(9, 0, 28), 6 + 3);
        Due.is("rentIf(9) where 8 stands", x.rentIf(9, 0, 20), NONE);
        Due.is("cheapest(9, 0)", x.cheapest(9, 0), 1);
        Due.is("cheapest(9, 1)", x.cheapest(9, 1), 2);
        Due.is("runScript: swap", x.runScript(2, 2980029800L), NONE);
        Due.is("leave(9)", x.leave(9), 14);
        Due.is("wallOf(0, 1)", x.wallOf(0, 1), 9);
        Due.is("free(0, 0)", x.free(0, 0), 21);
        Due.is("free(0, 1)", x.free(0, 1), 21);
    }

    private static void tenDealersInText() {
        FairWalls x = new FairWalls();
        String ten = "Ad010d010d010d010d010d010d010d010d010d593";
        Due.write(x, ten);
        Due.is("10 dealers: load()", x.load(), 0);
        Due.is("10 dealers: the frontage of the last one", x.dealerOf(9, 1), 9);
        Due.write(x, ten + "d010w09p9000");
        Due.is("11 dealers: load()", x.load(), 1);
        Due.is("11 dealers: 10 stay", x.about(1), 10);
        Due.is("11 dealers: what follows is done", x.dealerOf(9, 4), 0);
    }

    private static void filled(FairWalls x, String wall, int length, int rent) {
        Due.is(wall + ": ends", x.dealerOf(0, 9), 2);
        Due.is(wall + ": rent", x.dealerOf(0, 7), rent);
        Due.is(wall + ": all rents", x.about(8), rent);
        Due.is(wall + ": neighbours", x.dealerOf(0, 10), 0);
        Due.is(wall + ": free metres", x.about(4), 0);
        Due.is(wall + ": free(0, 0)", x.free(0, 0), 0);
        Due.is(wall + ": free(0, 1)", x.free(0, 1), 0);
        Due.is(wall + ": the longest row", x.wallOf(0, 4), 0);
        Due.is(wall + ": where it begins", x.wallOf(0, 5), NONE);
        Due.is(wall + ": its own place", x.rentIf(0, 0, 0), rent);
        Due.is(wall + ": beyond it", x.rentIf(0, 0, 1), NONE);
        Due.is(wall + ": its cheapest place", x.cheapest(0, 0), 0);
        Due.is(wall + ": its cheapest rent", x.cheapest(0, 1), rent);
        Due.is(wall + ": another one's cheapest place", x.cheapest(1, 0), NONE);
        Due.is(wall + ": another one's cheapest rent", x.cheapest(1, 1), NONE);
        Due.is(wall + ": 0 free", x.runScript(1, 90000), NONE);
        Due.is(wall + ": 1 free", x.runScript(1, 90001), 0);
        for (int m = 0; m < length; m++) {
            int metre = m;
            Due.is(wall + ": who is at " + m, x.metreOf(0, m, 2), 0);
            Due.is(wall + ": another one at " + m, x.rentIf(1, 0, metre), NONE);
        }
    }

    private static void fourMetresFilled() {
        FairWalls x = Due.fair("Aw04d040d010");
        Due.is("beyond by one", x.place(0, 0, 1), 2);
        Due.is("just as long as the wall", x.place(0, 0, 0), 0);
        filled(x, "4 metres", 4, 24 + 10);
        Due.is("somebody stands there", x.place(1, 0, 3), 3);
        Due.is("one metre longer", Due.fair("Aw04d050").place(0, 0, 0), 2);
        Due.is("one metre longer: rentIf", Due.fair("Aw04d050").rentIf(0, 0, 0), NONE);
        Due.is("one metre longer: cheapest", Due.fair("Aw04d050").cheapest(0, 0), NONE);
    }

    private static void nineMetresFilled() {
        FairWalls x = Due.fair("Aw09d093o0084d012p0000");
        filled(x, "9 metres", 9, 54 + 10 + 9);
        Due.is("9 metres: in a wall of 8", Due.fair("Aw08d090").place(0, 0, 0), 2);
        FairWalls y = Due.fair("Aw10d090p0000");
        Due.is("9 of 10: one end", y.dealerOf(0, 9), 1);
        Due.is("9 of 10: the free row", y.wallOf(0, 4), 1);
        Due.is("9 of 10: where it begins", y.wallOf(0, 5), 9);
        Due.is("9 of 10: the other place", y.rentIf(0, 0, 1), 59);
    }

    private static void filledByMany() {
        FairWalls x = Due.fair("Aw30d090d090d090d030p0000p1009p2018p3027");
        Due.is("filled by four: free", x.free(0, 0), 0);
        Due.is("filled by four: free, told by frontages", x.free(0, 1), 0);
        Due.is("filled by four: the longest row", x.wallOf(0, 4), 0);
        Due.is("filled by four: where it begins", x.wallOf(0, 5), NONE);
        Due.is("filled by four: pairs", x.about(13), 3);
        Due.is("filled by four: rents", x.about(8), 59 - 14 + 54 - 13 + 54 - 13 + 23 - 5);
        Due.is("filled by four: swaps like with like", x.why(0, 1), 0);
        Due.is("filled by four: no place for a longer one", x.why(0, 3), 3);
        Due.is("filled by four: no place for a longer one as the second", x.why(3, 0), 4);
        x.leave(3);
        Due.is("filled by three: the longest row", x.wallOf(0, 4), 3);
        Due.is("filled by three: where it begins", x.wallOf(0, 5), 27);
        Due.is("filled by three: its old place", x.place(3, 0, 27), 0);
    }

    private static void longestWall() {
        FairWalls x = Due.fair("Aw30d090d010");
        Due.is("30 metres: the last pitch of 9", x.place(0, 0, 21), 0);
        Due.is("30 metres: its last metre", x.metreOf(0, 29, 2), 0);
        Due.is("30 metres: its ends", x.dealerOf(0, 9), 1);
        Due.is("30 metres: the longest row", x.wallOf(0, 4), 21);
        Due.is("30 metres: just ahead", x.place(1, 0, 20), 0);
        Due.is("30 metres: they are neighbours", x.dealerOf(1, 10), 1);
        x.leave(0);
        Due.is("30 metres: beyond by one", x.place(0, 0, 22), 2);
        Due.is("30 metres: at the last one", x.place(0, 0, 29), 2);
        x.leave(1);
        Due.is("30 metres: the whole row", x.wallOf(0, 4), 30);
        Due.is("30 metres: from its first", x.wallOf(0, 5), 0);
        Due.is("30 metres: 1 at the last one", x.place(1, 0, 29), 0);
        Due.is("30 metres: it lies at the end", x.dealerOf(1, 9), 1);
    }

    private static void shortestWall() {
        FairWalls x = Due.fair("Aw04d010d010d010d010p0000p1001p2002p3003");
        Due.is("4 metres: 4 stand", x.wallOf(0, 1), 4);
        Due.is("4 metres: pairs", x.about(13), 3);
        int[] ends = {1, 0, 0, 1};
        int[] neighbours = {1, 2, 2, 1};
        for (int d = 0; d < 4; d++) {
            Due.is("4 metres: ends of " + d, x.dealerOf(d, 9), ends[d]);
            Due.is("4 metres: neighbours of " + d, x.dealerOf(d, 10), neighbours[d]);
            Due.is("4 metres: the same goods beside " + d, x.dealerOf(d, 11), neighbours[d]);
        }
        Due.is("4 metres: rents", x.about(8), 9 + 5 + 5 + 9);
    }

    private static void fullText() {
        FairWalls x = new FairWalls();
        StringBuilder text = new StringBuilder("A");
        while (text.length() < 117) {
            text.append("l0");
        }
        text.append("w30");
        for (int i = 0; i < 120; i++) {
            Due.is("append the character " + i, x.append(text.charAt(i)), i + 1);
        }
        Due.noState("append to 120", () -> x.append('w'));
        Due.is("120 characters: a fair", x.errorPosition(), NONE);
        Due.is("120 characters: load()", x.load(), 58);
        Due.is("120 characters: the last command is done", x.wallOf(0, 0), 30);
        Due.noState("append to 120 behind load", () -> x.append('w'));
        Due.is("120 characters: clearText()", x.clearText(), 120);
        Due.is("append behind clearText", x.append('A'), 1);
        Due.write(x, text.substring(0, 117) + "w31");
        Due.is("the last of 120 is wrong", x.errorPosition(), 119);
        Due.write(x, text.substring(0, 119) + "w");
        Due.is("120 end too soon", x.errorPosition(), 119);
        FairWalls y = new FairWalls();
        Due.write(y, text.substring(0, 117) + "l0w");
        Due.is("120 characters end too soon", y.errorPosition(), 120);
        Due.noState("120 characters end too soon: load()", y::load);
        Due.write(y, text.substring(0, 117) + "w3");
        Due.is("119 characters end too soon", y.errorPosition(), 119);
        Due.is("the 120th", y.append('0'), 120);
        Due.is("then it is a fair", y.errorPosition(), NONE);
    }

    private static void emptyText() {
        FairWalls x = new FairWalls();
        Due.is("empty: errorPosition()", x.errorPosition(), 0);
        Due.noState("empty: load()", x::load);
        Due.is("empty: clearText()", x.clearText(), 0);
        Due.is("A", x.append('A'), 1);
        Due.is("A: errorPosition()", x.errorPosition(), NONE);
        Due.is("A: load()", x.load(), 0);
        Due.is("A: clearText()", x.clearText(), 1);
        Due.is("empty again: errorPosition()", x.errorPosition(), 0);
        Due.noState("empty again: load()", x::load);
        Due.is("empty again: clearText()", x.clearText(), 0);
    }

    private static FairWalls acted(int actions) {
        FairWalls x = new FairWalls();
        for (int i = 1; i <= actions; i++) {
            x.days(i);
        }
        return x;
    }

    private static void fourteenStates() {
        for (int actions = 1; actions <= 14; actions++) {
            FairWalls x = acted(actions);
            int day = x.about(10);
            for (int left = actions - 1; left >= 0; left--) {
                Due.is("undo of " + actions, x.undo(), left);
                day -= left + 1;
                Due.is("the day behind undo of " + actions, x.about(10), day);
            }
            Due.is("all is taken back of " + actions, day, 0);
            Due.noState("no more of " + actions, x::undo);
        }
    }

    private static void fifteenStates() {
        for (int actions = 15; actions <= 31; actions++) {
            FairWalls x = acted(actions);
            int day = x.about(10);
            for (int left = 13; left >= 0; left--) {
                Due.is("undo of " + actions, x.undo(), left);
                day -= actions - 13 + left;
                Due.is("the day behind undo of " + actions, x.about(10), day);
            }
            Due.noState("no more than 14 of " + actions, x::undo);
            Due.is("the oldest of " + actions + " stay", x.about(10), (actions - 14) * (actions - 13) / 2);
        }
    }

    private static void statesTakenAndGiven() {
        FairWalls x = acted(14);
        Due.is("one taken back", x.undo(), 13);
        x.days(20);
        Due.is("14 again", x.undo(), 13);
        x.days(21);
        x.days(22);
        for (int left = 13; left >= 0; left--) {
            Due.is("undo()", x.undo(), left);
        }
        Due.is("only the oldest is forgotten", x.about(10), 1);
        Due.noState("no more", x::undo);
        x.days(3);
        Due.is("undo is no action", x.undo(), 0);
        Due.noState("nor does it remember", x::undo);
    }

    private static void slots() {
        FairWalls x = acted(2);
        Due.is("save(0)", x.save(0), 3);
        Due.noState("only 0 is filled", () -> x.restore(1));
        x.days(4);
        Due.is("save(1)", x.save(1), 7);
        x.days(8);
        Due.is("restore(0)", x.restore(0), 3);
        Due.is("restore(1)", x.restore(1), 7);
        Due.is("save(0) over it", x.save(0), 7);
        x.days(1);
        Due.is("save(1) over it", x.save(1), 8);
        Due.is("restore(0) again", x.restore(0), 7);
        Due.is("restore(0) once more", x.restore(0), 7);
        Due.is("restore(1) again", x.restore(1), 8);
        FairWalls y = acted(14);
        y.save(0);
        Due.is("save remembers nothing", y.undo(), 13);
        y.restore(0);
        Due.noState("restore forgets all of them", y::undo);
        y.days(1);
        Due.is("one is remembered behind restore", y.undo(), 0);
        Due.is("the day of the slot", y.about(10), 105);
    }

    private static void loadingNothing() {
        FairWalls x = Due.fair("Aw04d010p0000n05e509");
        x.save(0);
        x.save(1);
        x.place(0, 0, 0);
        Due.write(x, "A");
        Due.is("load() of A", x.load(), 0);
        for (int what = 0; what <= 13; what++) {
            Due.is("behind load() of A: about(" + what + ")", x.about(what), 0);
        }
        Due.is("behind load() of A: setting(5)", x.setting(5), 2);
        Due.noState("behind load() of A: undo()", x::undo);
        Due.noState("behind load() of A: restore(0)", () -> x.restore(0));
        Due.noState("behind load() of A: restore(1)", () -> x.restore(1));
        Due.noSuch("behind load() of A: no wall", () -> x.wallOf(0, 0));
        Due.noSuch("behind load() of A: no dealer", () -> x.dealerOf(0, 0));
        Due.is("the first wall anew", x.wall(5), 0);
        Due.is("the first dealer anew", x.dealer(1, 2, 3), 0);
        Due.is("who owes nothing", x.dealerOf(0, 8), 0);
        Due.is("and stands nowhere", x.dealerOf(0, 3), NONE);
    }
}
