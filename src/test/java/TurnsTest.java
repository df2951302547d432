/** Promises 26 and 27 at their edges: the numbers of a command, and the least and greatest ones of each turn. */
public final class TurnsTest {
    private static final int NONE = FairWalls.NONE;
    /** Wall 0: dealer 0 at its start, 1 beside it, the same goods; 2 stands nowhere. */
    private static final String FAIR = "Aw10o0021d011d020d220p0000p1001";
    private static final int RENTS = 11 - 2 - 4 + 12 - 3;

    public static void main(String[] args) {
        seeds();
        wallTurns();
        wallLengths();
        outletTurns();
        dealerTurns();
        placeTurns();
        leaveTurns();
        swapTurns();
        setTurns();
        dayTurns();
        countOfTurns();
        placeCommands();
        swapAndLeaveCommands();
        dayAndSetCommands();
        outletCommands();
        askingCommands();
        digitsOfZero();
        onACopy();
        Due.end();
    }

    /** The numbers of a turn. */
    private interface Wanted {
        boolean is(int q);
    }

    private static void turn(String what, String fair, int kind, int q, int due) {
        Due.is(what + ", turn " + kind + " of " + q, Due.fair(fair).simulate(TurnSeeds.of(kind, q), 1), due);
    }

    private static void turns(String what, String fair, int kind, int[] qs, int due) {
        for (int q : qs) {
            turn(what, fair, kind, q, due);
        }
    }

    /** Three q with the same numbers, one of them the least, since a wrong remainder may be right for one. */
    private static int[] find(Wanted wanted) {
        int[] qs = {0, 1 << 20, 1 << 26};
        for (int i = 0; i < qs.length; i++) {
            while (!wanted.is(qs[i])) {
                qs[i]++;
            }
        }
        return qs;
    }

    private static void seeds() {
        long[] seeds = {TurnSeeds.of(0, 0), TurnSeeds.of(15, (1 << 27) - 1), TurnSeeds.of(7, 12345)};
        int[] turns = {0, Integer.MAX_VALUE, 16 * 12345 + 7};
        for (int i = 0; i < seeds.length; i++) {
            long x = seeds[i] * 6364136223846793005L + 1442695040888963407L;
            Due.is("the turn of seed " + i, (int) (x >>> 33), turns[i]);
        }
    }

    private static void wallTurns() {
        for (int q : new int[] {0, 26, 27, (1 << 27) - 1}) {
            turn("no wall", "A", 0, q, 1);
            turn("3 walls", "Aw04w04w04", 0, q, 4);
            turn("4 walls: left out", "Aw04w04w04w04", 0, q, 4);
        }
    }

    /** Behind the wall a dealer of 1 metre is placed at it: the rent tells whether that is its last metre. */
    private static void wallLengths() {
        int[] qs = {0, 1, 25, 26, 27};
        int[] lengths = {4, 5, 29, 30, 4};
        for (int i = 0; i < qs.length; i++) {
            // no turn places at metre 30
            for (int m = lengths[i] - 2; m <= lengths[i] && m < 30; m++) {
                int metre = m;
                long seed = TurnSeeds.of(0, qs[i], (kind, q) -> kind >= 6 && kind <= 9 && q % 10 == 0
                        && q / 16 % 4 == 0 && q / 64 % 30 == metre);
                int due = m == lengths[i] ? 1 : 11 + 1000 * (m == lengths[i] - 1 ? 11 : 6);
                Due.is("wall of " + qs[i] + ", place at " + m, Due.fair("Ad010").simulate(seed, 2), due);
            }
        }
    }

    /** For outlet turns: w is q % 4, m is q / 4 % 30, plugs are q / 128 % 5. */
    private static int[] outletQ(int w, int m, int plugs) {
        return find(q -> q % 4 == w && q / 4 % 30 == m && q / 128 % 5 == plugs);
    }

    private static void outletTurns() {
        String fair = "Aw04w04w04w30d093p0320";
        for (int kind = 1; kind <= 2; kind++) {
            for (int plugs = 0; plugs <= 4; plugs++) {
                int has = Math.min(plugs, 3);
                int rent = 54 + 3 * has - 4 * (3 - has);
                turns("plugs of the pitch", fair, kind, outletQ(3, 28, plugs), 1000 * rent + 14);
                turns("plugs beside it", fair, kind, outletQ(3, 29, plugs), 1000 * rent + 14);
                turns("plugs too far away", fair, kind, outletQ(3, 18, plugs), 1000 * 42 + 14);
                turns("plugs of another wall", fair, kind, outletQ(2, 3, plugs), 1000 * 42 + 14);
                turns("no such metre", fair, kind, outletQ(2, 4, plugs), 1000 * 42 + 14);
                turns("no such wall", "Aw04d093", kind, outletQ(3, 28, plugs), 1);
                turns("no wall", "A", kind, outletQ(0, 0, plugs), 0);
            }
        }
        turns("plugs taken away", fair + "o3204", 1, outletQ(3, 20, 0), 1000 * 42 + 14);
    }

    /** For dealer turns: goods are q % 6, the frontage is 1 + q / 8 % 9, plugs are q / 128 % 4. */
    private static int[] dealerQ(int goods, int frontage, int plugs) {
        return find(q -> q % 6 == goods && 1 + q / 8 % 9 == frontage && q / 128 % 4 == plugs);
    }

    /** Behind the dealer it is placed beside dealer 0, whose goods are 5: the rents tell what it is like. */
    private static void dealerTurns() {
        for (int kind = 3; kind <= 5; kind++) {
            int[][] dealers = {{0, 1, 0}, {5, 1, 0}, {0, 9, 0}, {0, 1, 3}, {5, 9, 3}, {4, 8, 2}};
            int[] rents = {6 + 6, 5 + 5, 54 + 6, 0 + 6, 54 - 13 - 12 + 5, 48 - 8 + 6};
            for (int i = 0; i < dealers.length; i++) {
                for (int first : dealerQ(dealers[i][0], dealers[i][1], dealers[i][2])) {
                    long seed = TurnSeeds.of(kind, first, (k, q) -> k >= 6 && k <= 9 && q % 10 == 1
                            && q / 16 % 4 == 0 && q / 64 % 30 == 2);
                    String what = "dealer " + i + " of turn " + kind;
                    Due.is(what, Due.fair("Aw30d510p0001").simulate(seed, 2), 1000 * rents[i] + 21);
                }
            }
            turn("10 dealers: left out", "Ad010d010d010d010d010d010d010d010d010d010", kind, 0, 0);
        }
    }

    /** For place turns: d is q % 10, w is q / 16 % 4, m is q / 64 % 30. */
    private static int[] placeQ(int d, int w, int m) {
        return find(q -> q % 10 == d && q / 16 % 4 == w && q / 64 % 30 == m);
    }

    private static void placeTurns() {
        String full = "Aw04w04w04w30d010d010d010d010d010d010d010d010d010d010";
        for (int kind = 6; kind <= 9; kind++) {
            turns("the first one", full, kind, placeQ(0, 0, 0), 1000 * 11 + 14);
            turns("the last one", full, kind, placeQ(9, 3, 29), 1000 * 11 + 14);
            turns("the last one but one", full, kind, placeQ(8, 2, 3), 1000 * 11 + 14);
            turns("no such metre", full, kind, placeQ(9, 2, 4), 4);
            turns("no such wall", "Aw04d010", kind, placeQ(0, 1, 0), 1);
            turns("no such dealer", "Aw04d010", kind, placeQ(1, 0, 0), 1);
            turns("nothing at all", "A", kind, placeQ(0, 0, 0), 0);
            turns("beyond the wall", "Aw04d020", kind, placeQ(0, 0, 3), 1);
            turns("somebody is there", FAIR, kind, placeQ(2, 0, 2), 1000 * RENTS + 21);
            turns("stands somewhere", FAIR, kind, placeQ(1, 0, 5), 1000 * RENTS + 21);
            turns("one more", FAIR, kind, placeQ(2, 0, 3), 1000 * (RENTS + 12) + 31);
        }
    }

    private static void leaveTurns() {
        turn("the first leaves", FAIR, 10, 0, 1000 * 12 + 11);
        turn("the second leaves", FAIR, 10, 1, 1000 * (11 - 4) + 11);
        turn("10 more are the same", FAIR, 10, 11, 1000 * (11 - 4) + 11);
        turn("who stands nowhere", FAIR, 10, 2, 1000 * RENTS + 21);
        turn("no such dealer", FAIR, 10, 3, 1000 * RENTS + 21);
        turn("the tenth", "Aw04d010d010d010d010d010d010d010d010d010d010p9001", 10, 9, 1);
    }

    /** For swap turns: d is q % 10, e is q / 16 % 10. */
    private static int[] swapQ(int d, int e) {
        return find(q -> q % 10 == d && q / 16 % 10 == e);
    }

    private static void swapTurns() {
        String fair = "Aw10d010d010d110p0003p1004p2008";
        String last = "Aw20d210d210d210d210d210d210d210d210d010d011o0191p8019p9010";
        for (int kind = 11; kind <= 12; kind++) {
            turns("a swap that parts the same goods", fair, kind, swapQ(0, 2), 1000 * 18 + 31);
            turns("the other way round", fair, kind, swapQ(2, 0), 1000 * 18 + 31);
            turns("a swap of the same goods", fair, kind, swapQ(0, 1), 1000 * 16 + 31);
            turns("with itself", fair, kind, swapQ(2, 2), 1000 * 16 + 31);
            turns("with none", fair, kind, swapQ(0, 3), 1000 * 16 + 31);
            turns("of none", fair, kind, swapQ(3, 0), 1000 * 16 + 31);
            turns("none is allowed", fair + "e500", kind, swapQ(0, 2), 1000 * 16 + 31);
            turns("of the last two", last, kind, swapQ(9, 8), 1000 * (11 + 3 + 6) + 21);
            turns("of the last two, the other way round", last, kind, swapQ(8, 9), 1000 * (11 + 3 + 6) + 21);
        }
    }

    /** For set turns: what is q % 6, v is q / 8 % 12. */
    private static int[] setQ(int what, int v) {
        return find(q -> q % 6 == what && q / 8 % 12 == v);
    }

    private static void setTurns() {
        String fair = "Aw30d011d012p0000p1029o0111o0281";
        int now = 11 - 4 + 11 + 3 - 4;
        for (int v = 0; v <= 11; v++) {
            turns("coins for a metre", fair, 13, setQ(0, v), 1000 * (Math.max(0, v + 5 - 4) + v + 5 + 3 - 4) + 21);
            turns("coins for an end", fair, 13, setQ(2, v), 1000 * (6 + v - 4 + 6 + v + 3 - 4) + 21);
            turns("coins for a plug", fair, 13, setQ(3, v), 1000 * (7 + 11 + v - 4) + 21);
            turns("coins back", fair, 13, setQ(4, v), 1000 * (11 - v + 14 - v) + 21);
            turns("swaps of a day", fair, 13, setQ(5, v), 1000 * now + 21);
        }
        String far = "Aw30d011p0010";
        for (int v = 0; v <= 11; v++) {
            turns("reach to 9 away", far + "o0191", 13, setQ(1, v), 1000 * (v == 9 ? 9 : 2) + 11);
            turns("reach to 10 away", far + "o0201", 13, setQ(1, v), 1000 * 2 + 11);
            turns("reach to 1 away", far + "o0111", 13, setQ(1, v), 1000 * (v == 0 ? 2 : 9) + 11);
        }
    }

    private static void dayTurns() {
        String fair = "Aw10d010d010d110p0003p1004p2008e501";
        FairWalls x = Due.fair(fair);
        x.swap(0, 1);
        for (int kind = 14; kind <= 15; kind++) {
            for (int n : new int[] {0, 1, 2, 3, 4, 5, 59, 60, (1 << 27) - 1}) {
                turn("days", fair, kind, n, 1000 * 16 + 31);
                long seed = TurnSeeds.of(kind, n, (k, q) -> k >= 11 && k <= 12 && q % 10 == 0 && q / 16 % 10 == 2);
                Due.is("days, and a swap of the next day", x.simulate(seed, 2), 1000 * 18 + 31);
            }
        }
        long seed = TurnSeeds.of(10, 9, (k, q) -> k >= 11 && k <= 12 && q % 10 == 0 && q / 16 % 10 == 2);
        Due.is("no day, and no swap more", x.simulate(seed, 2), 1000 * 16 + 31);
        Due.is("nothing is owed", x.about(9), 0);
        Due.is("the day is the same", x.about(10), 0);
    }

    /** Of m turns each is made, and no more: a wall in the second one shows only from 2 on. */
    private static void countOfTurns() {
        long seed = TurnSeeds.of(10, 0, (kind, q) -> kind == 0);
        Due.is("1 turn", new FairWalls().simulate(seed, 1), 0);
        Due.is("2 turns", new FairWalls().simulate(seed, 2), 1);
        // the turns of simulate(seed, m) are the same as one by one, with the seed of each
        for (long first = 1; first <= 40; first++) {
            int walls = 0;
            long x = first;
            for (int m = 1; m <= 60; m++) {
                x = x * 6364136223846793005L + 1442695040888963407L;
                walls += (x >>> 33) % 16 == 0 && walls < 4 ? 1 : 0;
                Due.is("walls behind " + m + " turns of " + first, new FairWalls().simulate(first, m) % 10, walls);
            }
        }
    }

    private static void succeeds(String fair, int... commands) {
        for (int command : commands) {
            Due.is(fair + ": command " + command, Due.fair(fair).runScript(1, command), NONE);
        }
    }

    private static void fails(String fair, int... commands) {
        for (int command : commands) {
            Due.is(fair + ": command " + command, Due.fair(fair).runScript(1, command), 0);
        }
    }

    private static void placeCommands() {
        String full = "Aw04w04w04w30d010d010d010d010d010d010d010d010d010d010";
        succeeds(full, 10000, 10003, 19329, 19300, 10320, 18203);
        fails(full, 10004, 19330, 19399, 10400, 10900, 19403);
        fails("Aw04d010", 11000, 10100, 19000, 10004);
        fails("A", 10000);
        // reasons 1, 2, 3; reason 1 also where the dealer stands already
        succeeds(FAIR, 12003, 12008);
        fails(FAIR, 11005, 11001, 12009, 12002, 12000);
    }

    private static void swapAndLeaveCommands() {
        String last = "Aw20d010d010d010d010d010d010d010d010d010d010p8019p9010p0000";
        succeeds(last, 28900, 29800, 20900, 29000);
        fails(last, 29900, 20000, 20100, 21000, 22100);
        fails(last + "e500", 28900);
        fails("Aw20d010d010p0000p1005", 20200, 22000, 21900, 22200, 29900);
        fails("A", 20000, 20100, 30000);
        succeeds(last, 30000, 38000, 39000);
        fails(last, 31000, 37000);
        fails("Aw20d010p0000", 31000, 39000);
    }

    private static void dayAndSetCommands() {
        succeeds("A", 40001, 40059, 40060);
        fails("A", 40000, 40061, 40099);
        succeeds("A", 50000, 50050, 51000, 51009, 52000, 52050, 53000, 53050, 54000, 54050, 55000, 55009);
        fails("A", 50051, 50099, 51010, 51050, 52051, 53051, 54051, 55010, 55099, 56000, 57001, 59009);
    }

    private static void outletCommands() {
        String full = "Aw04w04w04w30";
        succeeds(full, 60000, 60004, 60030, 60034, 63000, 63294, 63290);
        fails(full, 60005, 60009, 60040, 60100, 63295, 63300, 63990, 64000, 69000);
        fails("A", 60000);
        fails("Aw04", 61000);
    }

    private static void askingCommands() {
        // rents: 0 lacks nothing, 11 + 3 less 3; 1 has 12 less 3; 2 stands nowhere
        String fair = "Aw10o0001d011d020d220p0000p1001";
        succeeds(fair, 70011, 70012, 70099, 71009, 72000, 72001);
        fails(fair, 70010, 70000, 71008, 73000, 73099, 79099);
        succeeds(fair, 80000, 80001, 81000, 82000);
        fails(fair, 80002, 80009, 81001, 82001, 83000, 89000);
        succeeds(fair, 90000, 90006, 90007);
        fails(fair, 90008, 90099, 91000, 99000);
        fails("A", 70000, 70099, 80000, 90000);
        String most = "Aw09d093o0004p0000d011d010d010d010d010d010d010d010d010";
        succeeds(most, 80003, 70073, 79000, 89000, 90000);
        fails(most, 80004, 70072, 89001, 90001);
        succeeds("Aw04w04w04w30", 93030, 90004);
        fails("Aw04w04w04w30", 93031, 90005, 94000, 94004);
        succeeds("Aw09d090p0000e050e250", 50000);
        fails("Aw09d090p0000e050e250", 70099);
    }

    /** Where a 0 is written, each other digit fails, though the command would succeed without it. */
    private static void digitsOfZero() {
        String fair = "Aw10w10o0002d010d010d010d010d010d010d010d010d010d010p0000p1005";
        int[] commands = {20100, 30000, 40001, 50000, 70099, 80000, 90000};
        int[][] zeros = {{10, 1}, {100, 10, 1}, {1000, 100}, {100}, {100}, {100, 10}, {100}};
        for (int i = 0; i < commands.length; i++) {
            succeeds(fair, commands[i]);
            for (int place : zeros[i]) {
                for (int digit = 1; digit <= 9; digit++) {
                    fails(fair, commands[i] + digit * place);
                }
            }
        }
        for (int rest = 0; rest <= 9999; rest += 101) {
            fails(fair, rest);
        }
        fails(fair, 1, 9999);
    }

    private static void onACopy() {
        FairWalls x = Due.fair(FAIR);
        Due.is("the first of three fails", x.runScript(3, 320003100040001L), 0);
        Due.is("the second of three fails", x.runScript(3, 310003100040001L), 1);
        Due.is("the third of three fails", x.runScript(3, 310003000031000L), 2);
        Due.is("none of three fails", x.runScript(3, 310003000040001L), NONE);
        Due.is("the first of two, told without its zeros", x.runScript(2, 31000), 0);
        Due.is("the first of three, told without its zeros", x.runScript(3, 3100030000L), 0);
        Due.is("what the first did holds for the second", x.runScript(2, 3000012000L), 1);
        Due.is("what they did holds for the third", x.runScript(3, 300003100012000L), NONE);
        Due.is("nobody has left", x.about(2), 2);
        Due.is("the rents are as before", x.about(8), RENTS);
        Due.noState("nothing is remembered", x::undo);
    }
}
