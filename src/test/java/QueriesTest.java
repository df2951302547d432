/** Promises 6 to 12: about, wallOf, metreOf, dealerOf, plugOf, setting, free. */
public final class QueriesTest {
    public static void main(String[] args) {
        wholeFair();
        pairsOfRivals();
        wallNumbers();
        freeRows();
        metres();
        dealerNumbers();
        rents();
        power();
        reach();
        settings();
        freeMetres();
        Due.end();
    }

    /** Wall 0: dealers 0 (0 to 2), 1 (3, 4), 2 (5 to 8), wall 1: dealer 3; dealer 4 stands nowhere. */
    private static FairWalls fair() {
        return Due.fair("Aw10w06o0022o0061o1004d132d121d243d551d290p0000p1003p2005p3101");
    }

    private static void wholeFair() {
        FairWalls x = fair();
        int[] want = {2, 5, 4, 16, 2, 7, 4, 3, 22 + 5 + 19 + 38, 0, 0, 0, 0, 1};
        for (int what = 0; what <= 13; what++) {
            Due.is("about(" + what + ")", x.about(what), want[what]);
        }
        x.days(2);
        x.leave(3);
        x.place(4, 0, 0);
        x.place(4, 0, 0);
        x.place(3, 1, 1);
        x.set(5, 9);
        x.swap(0, 1);
        Due.is("rents owed so far", x.about(9), 2 * 84);
        Due.is("the day", x.about(10), 2);
        Due.is("refusals", x.about(12), 3);
        Due.is("swaps of the day", x.about(11), 0);
        Due.noArgument("about(14)", () -> x.about(14));
        Due.noArgument("about(-1)", () -> x.about(-1));
        FairWalls y = Due.fair("Aw10d010d010p0000p1005");
        y.swap(0, 1);
        Due.is("one swap of the day", y.about(11), 1);
        y.days(1);
        Due.is("none on the next day", y.about(11), 0);
    }

    private static void pairsOfRivals() {
        FairWalls x = Due.fair("Aw10w10d310d310d310d310d210p0000p1001p2002p4003p3100");
        Due.is("pairs", x.about(13), 2);
        Due.is("neighbours of the middle one", x.dealerOf(1, 10), 2);
        Due.is("same goods of the middle one", x.dealerOf(1, 11), 2);
        Due.is("neighbours of 2", x.dealerOf(2, 10), 2);
        Due.is("same goods of 2", x.dealerOf(2, 11), 1);
        Due.is("neighbours of 4", x.dealerOf(4, 10), 1);
        Due.is("same goods of 4", x.dealerOf(4, 11), 0);
        Due.is("another wall is no neighbour", x.dealerOf(3, 10), 0);
        x.leave(1);
        Due.is("a gap: no pairs", x.about(13), 0);
        Due.is("nowhere: no neighbours", x.dealerOf(1, 10), 0);
    }

    private static void wallNumbers() {
        FairWalls x = fair();
        int[] first = {10, 3, 3, 3, 1, 9};
        int[] second = {6, 1, 4, 1, 1, 0};
        for (int what = 0; what <= 5; what++) {
            Due.is("wallOf(0, " + what + ")", x.wallOf(0, what), first[what]);
            Due.is("wallOf(1, " + what + ")", x.wallOf(1, what), second[what]);
        }
        Due.noSuch("wallOf(2, 0)", () -> x.wallOf(2, 0));
        Due.noSuch("wallOf(-1, 0)", () -> x.wallOf(-1, 0));
        Due.noSuch("wallOf(2, 6)", () -> x.wallOf(2, 6));
        Due.noArgument("wallOf(0, 6)", () -> x.wallOf(0, 6));
        Due.noArgument("wallOf(0, -1)", () -> x.wallOf(0, -1));
    }

    private static void freeRows() {
        FairWalls x = Due.fair("Aw12d010d020d090p0002p1005");
        Due.is("the longest row at the end", x.wallOf(0, 4), 5);
        Due.is("it starts at", x.wallOf(0, 5), 7);
        x.dealer(0, 3, 0);
        x.place(3, 0, 9);
        Due.is("three rows of 2", x.wallOf(0, 4), 2);
        Due.is("the lowest of them", x.wallOf(0, 5), 0);
        FairWalls y = Due.fair("Aw04d040p0000");
        Due.is("no free row", y.wallOf(0, 4), 0);
        Due.is("starts nowhere", y.wallOf(0, 5), FairWalls.NONE);
        y.leave(0);
        Due.is("the whole wall", y.wallOf(0, 4), 4);
        Due.is("from its start", y.wallOf(0, 5), 0);
    }

    private static void metres() {
        FairWalls x = fair();
        Due.is("plugs of 2", x.metreOf(0, 2, 0), 2);
        Due.is("taken of 2", x.metreOf(0, 2, 1), 2);
        Due.is("who is at 2", x.metreOf(0, 2, 2), 0);
        Due.is("who is at 3", x.metreOf(0, 3, 2), 1);
        Due.is("who is at 8", x.metreOf(0, 8, 2), 2);
        Due.is("who is at 9", x.metreOf(0, 9, 2), FairWalls.NONE);
        Due.is("plugs of the other wall", x.metreOf(1, 0, 0), 4);
        Due.is("taken of the other wall", x.metreOf(1, 0, 1), 1);
        Due.is("nobody before the pitch", x.metreOf(1, 0, 2), FairWalls.NONE);
        Due.is("the last metre of the pitch", x.metreOf(1, 5, 2), 3);
        Due.noSuch("metreOf(2, 0, 0)", () -> x.metreOf(2, 0, 0));
        Due.noSuch("metreOf(-1, 0, 0)", () -> x.metreOf(-1, 0, 0));
        Due.noSuch("metreOf(1, 6, 0)", () -> x.metreOf(1, 6, 0));
        Due.noSuch("metreOf(0, -1, 0)", () -> x.metreOf(0, -1, 0));
        Due.noSuch("metreOf(0, 10, 3)", () -> x.metreOf(0, 10, 3));
        Due.noArgument("metreOf(0, 9, 3)", () -> x.metreOf(0, 9, 3));
        Due.noArgument("metreOf(0, 9, -1)", () -> x.metreOf(0, 9, -1));
    }

    private static void dealerNumbers() {
        FairWalls x = fair();
        x.days(3);
        int[][] want = {
            {1, 3, 2, 0, 0, 2, 0, 22, 66, 1, 1, 1},
            {1, 2, 1, 0, 3, 0, 1, 5, 15, 0, 2, 1},
            {2, 4, 3, 0, 5, 1, 2, 19, 57, 0, 1, 0},
            {5, 5, 1, 1, 1, 1, 0, 38, 114, 1, 0, 0},
            {2, 9, 0, -1, -1, 0, 0, 0, 0, 0, 0, 0},
        };
        for (int d = 0; d < want.length; d++) {
            for (int what = 0; what <= 11; what++) {
                Due.is("dealerOf(" + d + ", " + what + ")", x.dealerOf(d, what), want[d][what]);
            }
        }
        x.leave(0);
        int[] gone = {1, 3, 2, -1, -1, 0, 0, 0, 66, 0, 0, 0};
        for (int what = 0; what <= 11; what++) {
            Due.is("gone: dealerOf(0, " + what + ")", x.dealerOf(0, what), gone[what]);
        }
        Due.noSuch("dealerOf(5, 0)", () -> x.dealerOf(5, 0));
        Due.noSuch("dealerOf(-1, 0)", () -> x.dealerOf(-1, 0));
        Due.noSuch("dealerOf(5, 12)", () -> x.dealerOf(5, 12));
        Due.noArgument("dealerOf(0, 12)", () -> x.dealerOf(0, 12));
        Due.noArgument("dealerOf(0, -1)", () -> x.dealerOf(0, -1));
    }

    private static void rents() {
        FairWalls x = Due.fair("Aw04d040p0000");
        Due.is("both ends", x.dealerOf(0, 9), 2);
        Due.is("rent of a filled wall", x.dealerOf(0, 7), 34);
        FairWalls y = Due.fair("Aw09d013d013p0003p1004e007");
        Due.is("lacking plugs: not below 0", y.dealerOf(0, 7), 0);
        y.set(4, 1);
        Due.is("the fourth part of 7 is 1, then 3 less", y.dealerOf(0, 7), 7 - 1 - 3);
        y.set(4, 2);
        Due.is("just 0", y.dealerOf(0, 7), 0);
        y.set(4, 0);
        Due.is("nothing back", y.dealerOf(1, 7), 6);
        y.outlet(0, 3, 4);
        y.set(3, 10);
        Due.is("with three plugs", y.dealerOf(0, 7), 37 - 9);
        Due.is("and one from next door", y.dealerOf(1, 7), 17 - 4);
        y.set(2, 50);
        Due.is("no end, no coins", y.dealerOf(1, 7), 17 - 4);
        y.leave(1);
        Due.is("no neighbour, nothing less", y.dealerOf(0, 7), 37);
    }

    private static void power() {
        FairWalls x = Due.fair("Aw12d023d011d013p0005p1008p2010o0061o0041o0071o0091o0111e101");
        Due.is("its own metre first", x.plugOf(0, 0), 6);
        Due.is("of two 1 away the lower", x.plugOf(0, 1), 4);
        Due.is("then the higher", x.plugOf(0, 2), 7);
        Due.is("what is left for 1", x.plugOf(1, 0), 9);
        Due.is("1 wants no more", x.plugOf(1, 1), FairWalls.NONE);
        Due.is("what is left for 2", x.plugOf(2, 0), 11);
        Due.is("2 lacks", x.plugOf(2, 1), FairWalls.NONE);
        Due.is("2 lacks two", x.dealerOf(2, 6), 2);
        x.outlet(0, 10, 4);
        Due.is("its own metre", x.plugOf(2, 0), 10);
        Due.is("the same metre again", x.plugOf(2, 2), 10);
        Due.is("taken from there", x.metreOf(0, 10, 1), 3);
        x.leave(0);
        Due.is("the lower numbers come first", x.plugOf(1, 0), 7);
        Due.is("nowhere: no plugs", x.plugOf(0, 0), FairWalls.NONE);
        Due.noSuch("plugOf(3, 0)", () -> x.plugOf(3, 0));
        Due.noSuch("plugOf(-1, 0)", () -> x.plugOf(-1, 0));
        Due.noSuch("plugOf(3, 3)", () -> x.plugOf(3, 3));
        Due.noArgument("plugOf(0, 3)", () -> x.plugOf(0, 3));
        Due.noArgument("plugOf(0, -1)", () -> x.plugOf(0, -1));
        FairWalls y = Due.fair("Aw09d093p0000o0031o0011o0081");
        Due.is("within the pitch the lowest", y.plugOf(0, 0), 1);
        Due.is("then the next", y.plugOf(0, 1), 3);
        Due.is("then the last", y.plugOf(0, 2), 8);
    }

    private static void reach() {
        FairWalls x = Due.fair("Aw30w30d012p0010o0001o0191o1101");
        Due.is("10 and 9 away are too far", x.about(6), 0);
        Due.is("both lack", x.about(7), 2);
        x.set(1, 8);
        Due.is("9 away is too far for 8", x.dealerOf(0, 5), 0);
        x.set(1, 9);
        Due.is("9 away", x.plugOf(0, 0), 19);
        Due.is("10 away is too far", x.plugOf(0, 1), FairWalls.NONE);
        Due.is("the other wall's plug is not taken", x.metreOf(1, 10, 1), 0);
        x.outlet(0, 10, 1);
        x.set(1, 0);
        Due.is("0 away", x.plugOf(0, 0), 10);
        Due.is("no farther", x.plugOf(0, 1), FairWalls.NONE);
    }

    private static void settings() {
        FairWalls x = new FairWalls();
        for (int what = 0; what <= 5; what++) {
            x.set(what, what + 1);
        }
        for (int what = 0; what <= 5; what++) {
            Due.is("setting(" + what + ")", x.setting(what), what + 1);
        }
        Due.noArgument("setting(6)", () -> x.setting(6));
        Due.noArgument("setting(-1)", () -> x.setting(-1));
    }

    private static void freeMetres() {
        FairWalls x = fair();
        for (int way = 0; way <= 1; way++) {
            Due.is("free(0, " + way + ")", x.free(0, way), 1);
            Due.is("free(1, " + way + ")", x.free(1, way), 1);
        }
        x.leave(2);
        x.leave(3);
        for (int way = 0; way <= 1; way++) {
            Due.is("then free(0, " + way + ")", x.free(0, way), 5);
            Due.is("then free(1, " + way + ")", x.free(1, way), 6);
        }
        Due.noSuch("free(2, 0)", () -> x.free(2, 0));
        Due.noSuch("free(-1, 0)", () -> x.free(-1, 0));
        Due.noSuch("free(2, 2)", () -> x.free(2, 2));
        Due.noArgument("free(0, 2)", () -> x.free(0, 2));
        Due.noArgument("free(0, -1)", () -> x.free(0, -1));
    }
}
