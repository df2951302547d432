/** The rules under "Terms" at their edges: fitting, neighbours, power, rents, days, swaps, settings. */
public final class RulesTest {
    private static final int NONE = FairWalls.NONE;

    public static void main(String[] args) {
        fitting();
        neighbours();
        reachOnBothSides();
        reachAtEndsOfWall();
        nearestFirst();
        sharedOut();
        lacking();
        wantingNone();
        fourthPart();
        fourthPartOfAll();
        fourthPartOnce();
        notBelowZero();
        endsOfWall();
        greatestRent();
        daysGoBy();
        daysOfOnesWhoMove();
        swapToEndOfWall();
        swapBesideOthers();
        swapIntoEachOther();
        swapReasonsInOrder();
        swapsOfDay();
        placeReasonsInOrder();
        gainsOfSwaps();
        cheapestOfSeveral();
        longestOfSeveral();
        Due.end();
    }

    /** A pitch of 3 beside one that has the metres 5 to 7. */
    private static void fitting() {
        for (int m = 0; m < 14; m++) {
            FairWalls x = Due.fair("Aw14d030d030p0005");
            int due = m > 11 ? 2 : m > 2 && m < 8 ? 3 : 0;
            Due.is("rentIf at " + m, x.rentIf(1, 0, m) == NONE ? 1 : 0, due == 0 ? 0 : 1);
            Due.is("place at " + m, x.place(1, 0, m), due);
            Due.is("who is at " + m, x.metreOf(0, m, 2), due == 0 ? 1 : m > 4 && m < 8 ? 0 : NONE);
            Due.is("free beside " + m, x.free(0, 0), due == 0 ? 8 : 11);
            Due.is("free beside " + m + ", told by frontages", x.free(0, 1), due == 0 ? 8 : 11);
        }
        FairWalls y = Due.fair("Aw14w14d030d030p0005");
        Due.is("the same metres of another wall", y.place(1, 1, 5), 0);
    }

    private static void neighbours() {
        for (int m = 0; m < 12; m++) {
            FairWalls x = Due.fair("Aw14d030d030p0005");
            int reason = x.place(1, 0, m);
            int due = m == 2 || m == 8 ? 1 : 0;
            Due.is("neighbours with one at " + m, x.dealerOf(0, 10), due);
            Due.is("neighbours of one at " + m, x.dealerOf(1, 10), reason == 0 ? due : 0);
            Due.is("same goods beside one at " + m, x.dealerOf(1, 11), due);
            Due.is("pairs with one at " + m, x.about(13), due);
        }
        FairWalls y = Due.fair("Aw05w05d010d010p0004p1100");
        Due.is("the end of a wall and the start of the next", y.about(13), 0);
        Due.is("no neighbours across walls", y.dealerOf(0, 10) + y.dealerOf(1, 10), 0);
        FairWalls z = Due.fair("Aw05w05d010d010p0002p1103");
        Due.is("the next metre of another wall", z.dealerOf(0, 10) + z.dealerOf(1, 10), 0);
        Due.is("other goods are neighbours", Due.fair("Aw05d010d110p0000p1001").dealerOf(0, 10), 1);
        Due.is("but no pair", Due.fair("Aw05d010d110p0000p1001").about(13), 0);
    }

    /** A pitch of the metres 13 and 14; a plug so far away is had with that reach, and not with less. */
    private static void reachOnBothSides() {
        for (int away = 0; away <= 12; away++) {
            for (int side = 0; side <= 1; side++) {
                FairWalls x = Due.fair("Aw28d021p0013");
                int m = side == 0 ? 13 - away : 14 + away;
                x.outlet(0, m, 1);
                for (int reach = 0; reach <= 9; reach++) {
                    x.set(1, reach);
                    boolean has = away <= reach;
                    Due.is("plug at " + m + ", reach " + reach, x.plugOf(0, 0), has ? m : NONE);
                    Due.is("had with " + m + ", reach " + reach, x.dealerOf(0, 5), has ? 1 : 0);
                    Due.is("lacking with " + m + ", reach " + reach, x.dealerOf(0, 6), has ? 0 : 1);
                    Due.is("taken of " + m + ", reach " + reach, x.metreOf(0, m, 1), has ? 1 : 0);
                    Due.is("all taken, reach " + reach, x.about(6), has ? 1 : 0);
                    Due.is("all lacking, reach " + reach, x.about(7), has ? 0 : 1);
                    Due.is("taken at the wall, reach " + reach, x.wallOf(0, 3), has ? 1 : 0);
                }
            }
        }
    }

    private static void reachAtEndsOfWall() {
        FairWalls x = Due.fair("Aw10w10d013e109o0091o1001o1091");
        x.place(0, 0, 0);
        Due.is("from the start to the end", x.plugOf(0, 0), 9);
        Due.is("no farther", x.plugOf(0, 1), NONE);
        x.leave(0);
        x.outlet(0, 9, 0);
        x.outlet(0, 0, 1);
        x.place(0, 0, 9);
        Due.is("from the end to the start", x.plugOf(0, 0), 0);
        Due.is("nothing of the next wall", x.plugOf(0, 1), NONE);
        Due.is("the next wall keeps its plugs", x.wallOf(1, 3), 0);
        x.leave(0);
        x.place(0, 1, 0);
        Due.is("its own metre", x.plugOf(0, 0), 0);
        Due.is("then 9 away", x.plugOf(0, 1), 9);
        Due.is("nothing of the wall before", x.plugOf(0, 2), NONE);
        FairWalls y = Due.fair("Aw30d011p0029e109o0201");
        Due.is("9 away from the last metre of 30", y.plugOf(0, 0), 20);
        FairWalls z = Due.fair("Aw30d011p0029e109o0191");
        Due.is("10 away from the last metre of 30", z.plugOf(0, 0), NONE);
    }

    private static void plugs(String what, FairWalls x, int d, int first, int second, int third) {
        Due.is(what + ": first", x.plugOf(d, 0), first);
        Due.is(what + ": second", x.plugOf(d, 1), second);
        Due.is(what + ": third", x.plugOf(d, 2), third);
    }

    private static void nearestFirst() {
        plugs("the pitch from its lowest", Due.fair("Aw12d033p0004o0061o0051o0041o0031"), 0, 4, 5, 6);
        plugs("two of a metre", Due.fair("Aw12d033p0004o0062o0051o0031"), 0, 5, 6, 6);
        plugs("three of a metre", Due.fair("Aw12d033p0004o0064o0031o0071"), 0, 6, 6, 6);
        plugs("1 away, the lower first", Due.fair("Aw12d033p0004o0031o0071o0021"), 0, 3, 7, NONE);
        plugs("the lower twice", Due.fair("Aw12d033p0004o0032o0071"), 0, 3, 3, 7);
        plugs("nearer above", Due.fair("Aw12d033p0004e109o0021o0071o0111"), 0, 7, 2, 11);
        plugs("nearer below", Due.fair("Aw12d033p0004e109o0031o0081o0101"), 0, 3, 8, 10);
        plugs("as far: lower, higher", Due.fair("Aw12d033p0004e109o0001o0101o0111"), 0, 0, 10, 11);
        plugs("told from the nearest metre of the pitch", Due.fair("Aw12d033p0004e102o0021o0081o0011"), 0, 2, 8, NONE);
    }

    private static void sharedOut() {
        FairWalls x = Due.fair("Aw12d022d022d022o0034o0081p2008p1002p0004");
        plugs("0 comes first, though it stands last", x, 0, 3, 3, NONE);
        plugs("1 has the rest", x, 1, 3, 3, NONE);
        plugs("2 has its own", x, 2, 8, NONE, NONE);
        x.outlet(0, 3, 3);
        plugs("0 still has two of three", x, 0, 3, 3, NONE);
        plugs("1 lacks one of three", x, 1, 3, NONE, NONE);
        Due.is("taken of 3", x.metreOf(0, 3, 1), 3);
        x.outlet(0, 3, 0);
        plugs("0 has none of none", x, 0, NONE, NONE, NONE);
        Due.is("taken of none", x.metreOf(0, 3, 1), 0);
        x.undo();
        x.leave(0);
        plugs("1 has what 0 has left", x, 1, 3, 3, NONE);
        Due.is("one is over", x.wallOf(0, 2) - x.wallOf(0, 3), 4 - 3);
        plugs("0 has gone", x, 0, NONE, NONE, NONE);
        FairWalls y = Due.fair("Aw12d011d012o0041p1004p0003");
        plugs("a plug of another one's pitch", y, 0, 4, NONE, NONE);
        plugs("it is lacking there", y, 1, NONE, NONE, NONE);
    }

    private static void lacking() {
        for (int wanted = 0; wanted <= 3; wanted++) {
            for (int there = 0; there <= 4; there++) {
                FairWalls x = Due.fair("Aw04d01" + wanted + "p0001o001" + there);
                int has = Math.min(wanted, there);
                Due.is("has of " + there, x.dealerOf(0, 5), has);
                Due.is("lacks of " + there, x.dealerOf(0, 6), wanted - has);
                Due.is("rent with " + has, x.dealerOf(0, 7), Math.max(0, 6 + 3 * has - 4 * (wanted - has)));
                for (int k = 0; k <= 2; k++) {
                    Due.is("plug " + k + " of " + there, x.plugOf(0, k), k < has ? 1 : NONE);
                }
                x.leave(0);
                Due.is("has nowhere", x.dealerOf(0, 5), 0);
                Due.is("lacks nowhere", x.dealerOf(0, 6), 0);
                Due.is("rent nowhere", x.dealerOf(0, 7), 0);
                Due.is("plug nowhere", x.plugOf(0, 0), NONE);
                Due.is("all lacking", x.about(7), 0);
                Due.is("all had", x.about(6), 0);
            }
        }
    }

    private static void wantingNone() {
        FairWalls x = Due.fair("Aw04d010d011o0014p0001p1002");
        plugs("wants none", x, 0, NONE, NONE, NONE);
        plugs("wants one", x, 1, 1, NONE, NONE);
        Due.is("one is taken", x.metreOf(0, 1, 1), 1);
    }

    /** A rent of 0 to 9 beside the same goods: less by its fourth part, rounded down. */
    private static void fourthPart() {
        int[] left = {0, 1, 2, 3, 3, 4, 5, 6, 6, 7};
        for (int coins = 0; coins < left.length; coins++) {
            FairWalls x = Due.fair("Aw09d010d010p0003p1004");
            x.set(0, coins);
            Due.is("rent of " + coins, x.dealerOf(0, 7), left[coins]);
            Due.is("rents of " + coins, x.about(8), 2 * left[coins]);
            Due.is("rentIf of " + coins, x.rentIf(1, 0, 2), left[coins]);
            Due.is("rentIf of " + coins + ", alone", x.rentIf(1, 0, 5), coins);
            Due.is("two days of " + coins, x.days(2), 4 * left[coins]);
        }
    }

    /** Metres, ends and plugs are told together before the fourth part is taken, what is lacking after it. */
    private static void fourthPartOfAll() {
        FairWalls x = Due.fair("Aw04d032d010p0000p1003o0011e003e201e301e401");
        Due.is("3 * 3 + 1 + 1 less 2, less 1", x.dealerOf(0, 7), 11 - 2 - 1);
        Due.is("3 + 1 less 1", x.dealerOf(1, 7), 4 - 1);
        x.set(4, 9);
        Due.is("11 less 2, less 9", x.dealerOf(0, 7), 0);
        x.set(4, 8);
        Due.is("11 less 2, less 8", x.dealerOf(0, 7), 1);
    }

    private static void fourthPartOnce() {
        FairWalls x = Due.fair("Aw09d210d210d210p0003p1004p2005e008");
        Due.is("two neighbours, less once", x.dealerOf(1, 7), 6);
        x.leave(0);
        Due.is("one neighbour, less once", x.dealerOf(1, 7), 6);
        x.leave(2);
        Due.is("no neighbour, nothing less", x.dealerOf(1, 7), 8);
        FairWalls y = Due.fair("Aw09d210d210d310p0003p1004p2005e008");
        Due.is("one of two neighbours", y.dealerOf(1, 7), 6);
        Due.is("other goods", y.dealerOf(2, 7), 8);
    }

    private static void notBelowZero() {
        int[] left = {10, 7, 4, 1, 0, 0};
        for (int back = 0; back < left.length; back++) {
            FairWalls x = Due.fair("Aw09d013p0004");
            x.set(0, 10);
            x.set(4, back);
            Due.is("10 less three times " + back, x.dealerOf(0, 7), 10 - 3 * back < 0 ? 0 : left[back]);
            Due.is("days of 10 less three times " + back, x.days(60), 60 * left[back]);
        }
        FairWalls y = Due.fair("Aw09d013p0004e450");
        Due.is("far below", y.dealerOf(0, 7), 0);
        Due.is("nothing is owed", y.days(60), 0);
        Due.is("nothing is owed by it", y.dealerOf(0, 8), 0);
        Due.is("rentIf of 0 is a rent", y.rentIf(0, 0, 5), 0);
        Due.is("it is the cheapest", y.cheapest(0, 1), 0);
    }

    private static void endsOfWall() {
        for (int m = 0; m <= 6; m++) {
            FairWalls x = Due.fair("Aw09d030");
            x.place(0, 0, m);
            int ends = m == 0 || m == 6 ? 1 : 0;
            Due.is("ends at " + m, x.dealerOf(0, 9), ends);
            Due.is("rent at " + m, x.dealerOf(0, 7), 18 + 5 * ends);
            Due.is("rentIf at " + m, x.rentIf(0, 0, m), 18 + 5 * ends);
        }
        Due.is("ends nowhere", Due.fair("Aw09d030").dealerOf(0, 9), 0);
    }

    private static void greatestRent() {
        FairWalls x = Due.fair("Aw09d093p0000o0003e050e250e350");
        Due.is("the greatest rent", x.dealerOf(0, 7), 450 + 100 + 150);
        int owed = 0;
        for (int i = 0; i < 100; i++) {
            owed += 60 * 700;
            Due.is("60 days", x.days(60), 60 * 700);
            Due.is("owed so far", x.about(9), owed);
        }
        Due.is("6000 days", x.about(10), 6000);
    }

    private static void daysGoBy() {
        for (int n = 1; n <= 60; n++) {
            FairWalls x = Due.fair("Aw10d010d110d210p0000p1005");
            x.swap(0, 1);
            Due.is("days(" + n + ")", x.days(n), n * 17);
            Due.is("the day behind " + n, x.about(10), n);
            Due.is("swaps behind " + n, x.about(11), 0);
            Due.is("owed by 0 behind " + n, x.dealerOf(0, 8), n * 6);
            Due.is("owed by 1 behind " + n, x.dealerOf(1, 8), n * 11);
            Due.is("owed by 2 behind " + n, x.dealerOf(2, 8), 0);
            Due.is("rents owed behind " + n, x.about(9), n * 17);
        }
    }

    private static void daysOfOnesWhoMove() {
        FairWalls x = Due.fair("Aw10d010p0000");
        x.days(1);
        Due.is("what it owes, when it leaves", x.leave(0), 11);
        Due.is("nowhere, nothing more", x.days(60), 0);
        Due.is("it still owes", x.dealerOf(0, 8), 11);
        x.place(0, 0, 5);
        Due.is("nothing on the day itself", x.dealerOf(0, 8), 11);
        x.days(1);
        Due.is("the rent of another place", x.dealerOf(0, 8), 17);
        x.set(0, 50);
        x.days(1);
        Due.is("the rent of other coins", x.dealerOf(0, 8), 67);
    }

    /** The first one, 3 metres long, goes where the second one stands. */
    private static void swapToEndOfWall() {
        for (int m = 3; m < 10; m++) {
            FairWalls x = Due.fair("Aw10d030d010p0000");
            x.place(1, 0, m);
            Due.is("why(0, 1) at " + m, x.why(0, 1), m > 7 ? 3 : 0);
            Due.is("why(1, 0) at " + m, x.why(1, 0), m > 7 ? 4 : 0);
            Due.is("swap(0, 1) at " + m, x.swap(0, 1), m > 7 ? 3 : 0);
            Due.is("where 0 goes from " + m, x.dealerOf(0, 4), m > 7 ? 0 : m);
            Due.is("where 1 goes from " + m, x.dealerOf(1, 4), m > 7 ? m : 0);
        }
        FairWalls y = Due.fair("Aw04w05d050d040p0100p1000");
        Due.is("one metre too long for a whole wall", y.why(0, 1), 3);
        Due.is("the other way round", y.why(1, 0), 4);
        FairWalls z = Due.fair("Aw04w05d040d030p0000p1100");
        Due.is("just as long as a whole wall", z.swap(1, 0), 0);
        Due.is("there it stands", z.dealerOf(1, 3), 0);
    }

    /** A third one stands at 8; the first one, 3 metres long, goes where the second one stands. */
    private static void swapBesideOthers() {
        for (int m = 3; m < 8; m++) {
            FairWalls x = Due.fair("Aw12d030d010d010p0000p2008");
            x.place(1, 0, m);
            Due.is("beside another: why(0, 1) at " + m, x.why(0, 1), m > 5 ? 3 : 0);
            Due.is("beside another: why(1, 0) at " + m, x.why(1, 0), m > 5 ? 4 : 0);
            Due.is("beside another: swap(1, 0) at " + m, x.swap(1, 0), m > 5 ? 4 : 0);
        }
        FairWalls y = Due.fair("Aw12w12d030d010d010p0000p1004p2105");
        Due.is("who stands at another wall is not in the way", y.why(0, 1), 0);
    }

    /** The first one stands at its new place already, when the second one comes to the old place of the first. */
    private static void swapIntoEachOther() {
        for (int m = 1; m < 8; m++) {
            FairWalls x = Due.fair("Aw10d010d030p0000");
            x.place(1, 0, m);
            int due = m < 3 ? 4 : 0;
            Due.is("a longer one comes down from " + m, x.why(0, 1), due);
            Due.is("it goes first, from " + m, x.why(1, 0), due);
            Due.is("swap, from " + m, x.swap(0, 1), due);
            Due.is("where it stands, from " + m, x.dealerOf(1, 4), due == 0 ? 0 : m);
        }
        for (int m = 0; m < 5; m++) {
            FairWalls x = Due.fair("Aw10d010d030p0007");
            x.place(1, 0, m);
            Due.is("a longer one goes up from " + m, x.why(0, 1), 0);
            Due.is("it goes first, up from " + m, x.why(1, 0), 0);
        }
        FairWalls y = Due.fair("Aw10d020d030p0005p1002");
        Due.is("side by side: the upper one goes down, the longer one up", y.swap(0, 1), 0);
        Due.is("behind it 0 is at", y.dealerOf(0, 4), 2);
        Due.is("behind it 1 is at", y.dealerOf(1, 4), 5);
        FairWalls z = Due.fair("Aw10d030d020p0005p1003");
        Due.is("side by side: the longer one goes down into the other", z.swap(0, 1), 4);
        Due.is("the other way round", z.swap(1, 0), 4);
        FairWalls u = Due.fair("Aw10d020d020p0005p1003");
        Due.is("side by side, as long", u.swap(0, 1), 0);
    }

    private static void swapReasonsInOrder() {
        FairWalls x = Due.fair("Aw04w09d050d040d090p0100p1000e500");
        Due.is("both stand, none is allowed, it would not fit", x.why(0, 1), 2);
        Due.is("one stands nowhere, none is allowed", x.why(0, 2), 1);
        Due.is("the other stands nowhere, none is allowed", x.why(2, 0), 1);
        x.leave(0);
        Due.is("both stand nowhere", x.why(0, 2), 1);
        FairWalls y = Due.fair("Aw10d030d010d010p0002p1000p2001");
        Due.is("in the way of the first one, and then of the second", y.why(0, 1), 3);
        Due.is("in the way of the second one alone", y.why(1, 0), 4);
        FairWalls z = Due.fair("Aw10d030d020d010d010p0000p1004p2006p3003");
        Due.is("somebody is in the way of the first one", z.why(0, 1), 3);
        Due.is("and of it as the second one", z.why(1, 0), 4);
    }

    private static void swapsOfDay() {
        for (int most = 0; most <= 9; most++) {
            FairWalls x = Due.fair("Aw10d010d010p0000p1005e50" + most);
            for (int made = 0; made < most; made++) {
                Due.is("why, made " + made + " of " + most, x.why(0, 1), 0);
                Due.is("swap, made " + made + " of " + most, x.swap(0, 1), 0);
                Due.is("swaps, made " + made + " of " + most, x.about(11), made + 1);
            }
            Due.is("no more than " + most, x.why(0, 1), 2);
            Due.is("no more than " + most + ": swap", x.swap(0, 1), 2);
            Due.is("no more than " + most + ": bestSwap", x.bestSwap(0), NONE);
            Due.is("no more than " + most + ": swaps", x.about(11), most);
            Due.is("no more than " + most + ": refusals", x.about(12), 1);
            x.undo();
            Due.is("taken back: refusals", x.about(12), 0);
            if (most > 0) {
                x.undo();
                Due.is("taken back: one more may be made", x.swap(0, 1), 0);
            }
            x.days(1);
            Due.is("the next day", x.why(0, 1), most == 0 ? 2 : 0);
            Due.is("swaps of the next day", x.about(11), 0);
        }
    }

    private static void placeReasonsInOrder() {
        FairWalls x = Due.fair("Aw05d030d030p0002");
        Due.is("stands there already", x.place(0, 0, 2), 1);
        Due.is("stands somewhere, and would go beyond", x.place(0, 0, 4), 1);
        Due.is("would go beyond, and somebody stands there", x.place(1, 0, 3), 2);
        Due.is("somebody stands there", x.place(1, 0, 0), 3);
        Due.is("refusals", x.about(12), 4);
        x.leave(0);
        Due.is("nobody stands there any more", x.place(1, 0, 0), 0);
        Due.is("refusals stay", x.about(12), 4);
    }

    /** Two of the same goods side by side, and one who could come between; the gain is the fourth parts. */
    private static void gainsOfSwaps() {
        String fair = "Aw10d010d010d110p0003p1004p2008e00";
        Due.is("coins 3: nothing is gained", Due.fair(fair + "3").bestSwap(0), NONE);
        Due.is("coins 3: no rents", Due.fair(fair + "3").bestSwap(1), NONE);
        Due.is("coins 4: gained by the lowest of two", Due.fair(fair + "4").bestSwap(0), 2);
        Due.is("coins 4: rents", Due.fair(fair + "4").bestSwap(1), 12);
        FairWalls x = Due.fair("Aw10d010d010p0000p1005");
        Due.is("as much as now is no gain", x.bestSwap(0), NONE);
        FairWalls y = Due.fair("Aw10o0001d010d011p0000p1005");
        Due.is("a gain of the pair 0 and 1", y.bestSwap(0), 1);
        Due.is("its rents are those behind it", y.bestSwap(1), 11 + 3 + 6);
        y.set(5, 0);
        Due.is("refused swaps gain nothing", y.bestSwap(0), NONE);
        y.set(5, 1);
        y.swap(0, 1);
        y.undo();
        Due.is("asked for as often as wanted", y.bestSwap(0), 1);
    }

    private static void cheapestOfSeveral() {
        FairWalls x = Due.fair("Aw05w05w05w05d010d010");
        Due.is("the lowest metre of the lowest wall", x.cheapest(0, 0), 1);
        x.set(2, 0);
        Due.is("all are the same", x.cheapest(0, 0), 0);
        x.place(1, 3, 3);
        Due.is("beside the same goods, below", x.cheapest(0, 0), 302);
        Due.is("its rent", x.cheapest(0, 1), 5);
        FairWalls y = Due.fair("Aw04w30d090");
        Due.is("the first wall is too short", y.cheapest(0, 0), 101);
        y.set(2, 0);
        Due.is("the first place of the second wall", y.cheapest(0, 0), 100);
        FairWalls z = Due.fair("Aw30d010d010p0029");
        Due.is("the last place but one", z.cheapest(1, 0), 28);
        z.set(2, 1);
        z.dealer(1, 9, 0);
        z.dealer(1, 9, 0);
        z.dealer(1, 9, 0);
        z.place(2, 0, 0);
        z.place(3, 0, 9);
        z.place(4, 0, 18);
        z.dealer(1, 1, 0);
        z.place(5, 0, 27);
        z.leave(0);
        Due.is("beside others, then at the end", z.cheapest(0, 0), 28);
        z.place(1, 0, 28);
        Due.is("only the last metre", z.cheapest(0, 0), 29);
        Due.is("its rent, beside the same goods", z.cheapest(0, 1), 7 - 1);
    }

    private static void longestOfSeveral() {
        FairWalls x = Due.fair("Aw11d010d010p0003p1007");
        Due.is("three rows of 3", x.wallOf(0, 4), 3);
        Due.is("the first of them", x.wallOf(0, 5), 0);
        FairWalls y = Due.fair("Aw11d010d010p0002p1006");
        Due.is("the last of three is longest", y.wallOf(0, 4), 4);
        Due.is("it begins at", y.wallOf(0, 5), 7);
        FairWalls z = Due.fair("Aw11d010d010p0000p1010");
        Due.is("between both ends", z.wallOf(0, 4), 9);
        Due.is("begins behind the first one", z.wallOf(0, 5), 1);
    }
}
