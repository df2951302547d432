/** Promises 22 to 25: rentIf, cheapest, bestSwap, why. */
public final class WouldBeTest {
    public static void main(String[] args) {
        rentIf();
        rentIfWithPower();
        cheapest();
        bestSwap();
        bestSwapOfSeveral();
        why();
        Due.end();
    }

    private static void rentIf() {
        FairWalls x = Due.fair("Aw10w04d030d020d150p0000p1003");
        Due.is("where it stands", x.rentIf(0, 0, 0), 23 - 5);
        Due.is("on its own metres", x.rentIf(0, 0, 0), x.dealerOf(0, 7));
        Due.is("partly on its own metres", x.rentIf(1, 0, 4), 12);
        Due.is("in another one's way", x.rentIf(0, 0, 1), FairWalls.NONE);
        Due.is("beyond the wall", x.rentIf(0, 0, 8), FairWalls.NONE);
        Due.is("at the end", x.rentIf(0, 0, 7), 23);
        Due.is("another wall", x.rentIf(0, 1, 0), 23);
        Due.is("another wall's end", x.rentIf(0, 1, 1), 23);
        Due.is("who stands nowhere", x.rentIf(2, 0, 5), 35);
        Due.is("beside other goods", x.rentIf(2, 0, 5), 35);
        Due.is("too long for the wall", x.rentIf(2, 1, 0), FairWalls.NONE);
        x.days(1);
        Due.is("nobody has moved", x.dealerOf(0, 4), 0);
        Due.is("refusals", x.about(12), 0);
        Due.noSuch("rentIf(3, 0, 0)", () -> x.rentIf(3, 0, 0));
        Due.noSuch("rentIf(-1, 0, 0)", () -> x.rentIf(-1, 0, 0));
        Due.noSuch("rentIf(0, 2, 0)", () -> x.rentIf(0, 2, 0));
        Due.noSuch("rentIf(0, -1, 0)", () -> x.rentIf(0, -1, 0));
        Due.noSuch("rentIf(0, 1, 4)", () -> x.rentIf(0, 1, 4));
        Due.noSuch("rentIf(0, 0, -1)", () -> x.rentIf(0, 0, -1));
    }

    private static void rentIfWithPower() {
        FairWalls x = Due.fair("Aw10o0041d021d021p0000p1007");
        Due.is("it would have the plug", x.rentIf(1, 0, 3), 12 + 3);
        Due.is("too far for the plug", x.rentIf(1, 0, 6), 12 - 4);
        x.leave(0);
        x.place(0, 0, 4);
        Due.is("a lower number has it first", x.rentIf(1, 0, 2), 12 - 3 - 4);
        Due.is("the lower number takes it", x.rentIf(0, 0, 5), 12 + 3 - 3);
        Due.is("power stays as it was", x.plugOf(0, 0), 4);
    }

    private static void cheapest() {
        FairWalls x = Due.fair("Aw06w06d020d110p0000");
        Due.is("the lowest middle place", x.cheapest(1, 0), 2);
        Due.is("its rent", x.cheapest(1, 1), 6);
        Due.is("beside its own goods would be cheaper: none", x.cheapest(0, 0), 1);
        x.dealer(1, 1, 0);
        x.place(2, 1, 2);
        Due.is("beside the same goods", x.cheapest(1, 0), 101);
        Due.is("less by the fourth part", x.cheapest(1, 1), 5);
        FairWalls y = Due.fair("Aw04d040d010p0000");
        Due.is("no place", y.cheapest(1, 0), FairWalls.NONE);
        Due.is("no rent", y.cheapest(1, 1), FairWalls.NONE);
        Due.is("only its own place", y.cheapest(0, 0), 0);
        Due.is("the rent there", y.cheapest(0, 1), 34);
        FairWalls z = Due.fair("Aw04w05d040e000e200");
        Due.is("of several the lowest", z.cheapest(0, 0), 0);
        Due.is("a rent of 0", z.cheapest(0, 1), 0);
        Due.is("no wall", Due.fair("Ad010").cheapest(0, 0), FairWalls.NONE);
        Due.noSuch("cheapest(1, 0)", () -> z.cheapest(1, 0));
        Due.noSuch("cheapest(-1, 0)", () -> z.cheapest(-1, 0));
        Due.noSuch("cheapest(1, 2)", () -> z.cheapest(1, 2));
        Due.noArgument("cheapest(0, 2)", () -> z.cheapest(0, 2));
        Due.noArgument("cheapest(0, -1)", () -> z.cheapest(0, -1));
    }

    private static void bestSwap() {
        FairWalls x = Due.fair("Aw10d010d010d110p0003p1004p2008");
        Due.is("swaps that part the same goods", x.bestSwap(0), 2);
        Due.is("the rents behind it", x.bestSwap(1), 18);
        Due.is("the rents now", x.about(8), 5 + 5 + 6);
        x.set(5, 0);
        Due.is("none is allowed", x.bestSwap(0), FairWalls.NONE);
        Due.is("no rents", x.bestSwap(1), FairWalls.NONE);
        x.set(5, 2);
        x.swap(0, 2);
        Due.is("none is more than now", x.bestSwap(0), FairWalls.NONE);
        Due.is("nothing gained", x.bestSwap(1), FairWalls.NONE);
        Due.is("one swap was made", x.about(11), 1);
        Due.noArgument("bestSwap(2)", () -> x.bestSwap(2));
        Due.noArgument("bestSwap(-1)", () -> x.bestSwap(-1));
    }

    private static void bestSwapOfSeveral() {
        FairWalls x = Due.fair("Aw20d010d010d110d210p0003p1004p2008p3012");
        Due.is("of several the lowest", x.bestSwap(0), 2);
        x.outlet(0, 12, 1);
        x.undo();
        FairWalls y = Due.fair("Aw20o0122d010d012d110d210p0003p1004p2008p3012");
        Due.is("the greatest, not the first", y.bestSwap(0), 13);
        Due.is("the greatest rents", y.bestSwap(1), 6 + 6 + 6 + 12);
        Due.is("0 * 10 + 1 stays out", y.why(0, 1), 0);
    }

    private static void why() {
        FairWalls x = Due.fair("Aw10d030d010d010p0002p1009");
        Due.is("nowhere", x.why(0, 2), 1);
        Due.is("the first one does not fit", x.why(0, 1), 3);
        Due.is("the second one does not fit", x.why(1, 0), 4);
        x.place(2, 0, 6);
        Due.is("they can", x.why(0, 2), 0);
        Due.is("they can the other way round", x.why(2, 0), 0);
        Due.is("as often as it is asked", x.why(0, 2), 0);
        x.set(5, 0);
        Due.is("no swaps a day", x.why(0, 2), 2);
        Due.is("why() refuses nothing", x.about(12), 0);
        Due.is("why() swaps nothing", x.dealerOf(0, 4), 2);
        Due.noSuch("why(3, 0)", () -> x.why(3, 0));
        Due.noSuch("why(0, 3)", () -> x.why(0, 3));
        Due.noSuch("why(-1, -1)", () -> x.why(-1, -1));
        Due.noSuch("why(0, -1)", () -> x.why(0, -1));
        Due.noArgument("why(1, 1)", () -> x.why(1, 1));
    }
}
