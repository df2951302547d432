/** Promises 28 and 29: save, restore. */
public final class SlotsTest {
    public static void main(String[] args) {
        saving();
        restoring();
        forgetting();
        Due.end();
    }

    private static void saving() {
        FairWalls x = new FairWalls();
        Due.noSuch("save(2)", () -> x.save(2));
        Due.noSuch("save(-1)", () -> x.save(-1));
        Due.is("save(0)", x.save(0), 0);
        x.days(7);
        Due.is("save(1)", x.save(1), 7);
        x.days(2);
        Due.is("save(1) anew", x.save(1), 9);
        Due.is("restore(0)", x.restore(0), 0);
        Due.is("restore(1)", x.restore(1), 9);
    }

    private static void restoring() {
        FairWalls x = Due.fair("Aw10o0023d013d110p0000p1005n02e207");
        Due.noSuch("restore(2)", () -> x.restore(2));
        Due.noSuch("restore(-1)", () -> x.restore(-1));
        Due.noState("restore(0) of nothing", () -> x.restore(0));
        x.swap(0, 1);
        x.place(0, 0, 0);
        Due.is("save(0)", x.save(0), 2);
        Due.noState("restore(1) of nothing", () -> x.restore(1));
        int[] want = new int[14];
        for (int what = 0; what <= 13; what++) {
            want[what] = x.about(what);
        }
        int owed = x.dealerOf(0, 8);
        x.leave(0);
        x.wall(5);
        x.outlet(0, 2, 0);
        x.dealer(0, 1, 0);
        x.days(3);
        x.set(2, 0);
        for (int times = 0; times < 2; times++) {
            Due.is("restore(0)", x.restore(0), 2);
            for (int what = 0; what <= 13; what++) {
                Due.is("restored about(" + what + ")", x.about(what), want[what]);
            }
            Due.is("restored place", x.dealerOf(0, 4), 5);
            Due.is("restored setting", x.setting(2), 7);
            Due.is("restored owed", x.dealerOf(0, 8), owed);
            Due.is("restored plugs", x.metreOf(0, 2, 0), 3);
            x.leave(1);
        }
    }

    private static void forgetting() {
        FairWalls x = new FairWalls();
        x.append('A');
        x.wall(10);
        x.save(0);
        Due.is("save keeps what is remembered", x.undo(), 0);
        x.wall(5);
        x.wall(6);
        Due.noSuch("restore(2)", () -> x.restore(2));
        Due.noState("restore(1)", () -> x.restore(1));
        Due.is("a restore that throws keeps it too", x.undo(), 1);
        x.restore(0);
        Due.noState("restore forgets it", x::undo);
        Due.is("the text is no state", x.clearText(), 1);
        x.wall(7);
        Due.is("undo of what came later", x.undo(), 0);
        Due.is("the wall that was saved", x.wallOf(0, 0), 10);
        x.days(1);
        x.undo();
        Due.is("slots are no state", x.restore(0), 0);
    }
}
