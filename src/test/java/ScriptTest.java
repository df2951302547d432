/** Promises 26 and 27: runScript, simulate. */
public final class ScriptTest {
    public static void main(String[] args) {
        arguments();
        order();
        eachCommand();
        strayDigits();
        copies();
        simulating();
        Due.end();
    }

    /** Wall 0: dealers 0 (0 to 2), 1 (5), plugs at 2; wall 1; dealer 2 stands nowhere. */
    private static FairWalls fair() {
        return Due.fair("Aw10w06o0021d132d110d020p0000p1005");
    }

    private static void arguments() {
        FairWalls x = fair();
        Due.noArgument("runScript(0, 0)", () -> x.runScript(0, 0));
        Due.noArgument("runScript(4, 0)", () -> x.runScript(4, 0));
        Due.noArgument("runScript(-1, 0)", () -> x.runScript(-1, 0));
        Due.noArgument("runScript(1, -1)", () -> x.runScript(1, -1));
        Due.noArgument("runScript(1, -100000)", () -> x.runScript(1, -100000));
        Due.noArgument("runScript(3, least)", () -> x.runScript(3, Long.MIN_VALUE));
        Due.noArgument("6 digits", () -> x.runScript(1, 100000));
        Due.noArgument("11 digits", () -> x.runScript(2, 10000000000L));
        Due.noArgument("16 digits", () -> x.runScript(3, 1000000000000000L));
        Due.noArgument("greatest", () -> x.runScript(3, Long.MAX_VALUE));
        Due.is("5 digits", x.runScript(1, 99999), 0);
        Due.is("10 digits", x.runScript(2, 9999999999L), 0);
        Due.is("15 digits", x.runScript(3, 999999999999999L), 0);
        Due.is("zeros", x.runScript(1, 0), 0);
        Due.is("zeros before", x.runScript(3, 40001), 0);
    }

    private static void order() {
        FairWalls x = fair();
        Due.is("all succeed", x.runScript(3, 300001000690001L), FairWalls.NONE);
        Due.is("the first fails", x.runScript(3, 320001000530000L), 0);
        Due.is("the second fails", x.runScript(3, 300003000030000L), 1);
        Due.is("the third fails", x.runScript(3, 300003100030000L), 2);
        Due.is("the second of two", x.runScript(2, 3000030000L), 1);
        Due.is("all of two", x.runScript(2, 3000031000L), FairWalls.NONE);
        Due.is("one sees what the others did", x.runScript(3, 300001000612006L), 2);
        Due.is("and what they left", x.runScript(3, 300001200010002L), FairWalls.NONE);
    }

    private static void succeeds(FairWalls x, int command) {
        Due.is("command " + command, x.runScript(1, command), FairWalls.NONE);
    }

    private static void fails(FairWalls x, int... commands) {
        for (int command : commands) {
            Due.is("command " + command, x.runScript(1, command), 0);
        }
    }

    private static void eachCommand() {
        FairWalls x = fair();
        succeeds(x, 12003);
        succeeds(x, 12104);
        fails(x, 12004, 12105, 12009, 12010, 12206, 13000, 10006, 12030);
        succeeds(x, 20100);
        fails(x, 20000, 20200, 22000, 20300, 29900);
        succeeds(x, 30000);
        fails(x, 32000, 33000, 39000);
        succeeds(x, 40001);
        succeeds(x, 40060);
        fails(x, 40000, 40061, 40099);
        succeeds(x, 50050);
        succeeds(x, 51009);
        succeeds(x, 55000);
        fails(x, 50051, 51010, 55010, 56000, 59001);
        succeeds(x, 60094);
        succeeds(x, 61050);
        fails(x, 60095, 60101, 61061, 62000);
        succeeds(Due.fair("Aw12"), 60114);
        fails(Due.fair("Aw12"), 60120);
        // rents: 0 has one plug of two: 18 + 5 + 3 - 4
        succeeds(x, 70022);
        fails(x, 70021);
        succeeds(x, 72000);
        succeeds(x, 71006);
        fails(x, 71005, 73099);
        succeeds(x, 80001);
        succeeds(x, 80000);
        succeeds(x, 82000);
        fails(x, 80002, 81001, 82001, 83000);
        succeeds(x, 90006);
        succeeds(x, 91006);
        succeeds(x, 91000);
        fails(x, 90007, 91007, 92000, 99000);
        fails(x, 0, 1, 9999);
    }

    private static void strayDigits() {
        FairWalls x = fair();
        fails(x, 20101, 20110, 20111, 30001, 30010, 30100, 41001, 40101, 50101, 51900 + 5);
        fails(x, 70122, 70199, 80100, 80010, 80110, 90101, 91100);
        succeeds(Due.fair("Aw10d010d010d010d010p0000p3005"), 20300);
    }

    private static void copies() {
        FairWalls x = fair();
        x.save(0);
        x.runScript(3, 300004000560094L);
        x.runScript(3, 201005003020100L);
        x.runScript(1, 12000);
        x.simulate(5, 60);
        Due.is("nobody has left", x.about(2), 2);
        Due.is("no day", x.about(10), 0);
        Due.is("no plugs", x.about(5), 1);
        Due.is("no swaps", x.about(11), 0);
        Due.is("no refusals", x.about(12), 0);
        Due.is("no walls", x.about(0), 2);
        Due.noState("nothing remembered", x::undo);
    }

    private static void simulating() {
        FairWalls x = new FairWalls();
        Due.noArgument("simulate(1, 0)", () -> x.simulate(1, 0));
        Due.noArgument("simulate(1, 61)", () -> x.simulate(1, 61));
        Due.noArgument("simulate(1, -1)", () -> x.simulate(1, -1));
        Due.is("simulate(1, 60)", x.simulate(1, 60), 27034);
        Due.is("simulate(1, 60) again", x.simulate(1, 60), 27034);
        FairWalls y = fair();
        Due.is("one turn of days", y.simulate(daysSeed(), 1), 1000 * (22 + 6) + 20 + 2);
    }

    /** A seed whose first turn is days(): found by trying, as the document tells the turn. */
    private static long daysSeed() {
        for (long seed = 0; seed < 1000; seed++) {
            long x = seed * 6364136223846793005L + 1442695040888963407L;
            if ((int) (x >>> 33) % 16 >= 14) {
                return seed;
            }
        }
        return 0;
    }
}
