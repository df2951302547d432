/**
 * Each argument's range, promise by promise: the last values inside are answered, the first ones outside on each
 * side and those farthest off throw; and of two exceptions that apply, the one that is named first.
 */
public final class RangesTest {
    /** A call with one argument in question. */
    private interface With {
        int answer(FairWalls x, int v);
    }

    /** Walls of 4, 30 and 5 metres, dealers 0 to 2 who stand, and 3 who stands nowhere. */
    private static final String FAIR = "Aw04w30w05d010d121d232d010p0000p1129p2203";
    private static final String FULL = "Aw04w30w05w06d010d010d010d010d010d010d010d010d010d010p0000p1001p9305";

    public static void main(String[] args) {
        ofText();
        ofQueries();
        ofActions();
        ofSettings();
        ofWhatWouldBe();
        ofScripts();
        ofScriptLengths();
        ofSimulations();
        ofSlots();
        ofNothing();
        ofFull();
        firstNamed();
        firstNamedWhenFull();
        firstNamedOfSlots();
        Due.end();
    }

    private static void answers(String call, String fair, int v, With with) {
        FairWalls x = Due.fair(fair);
        String told = Due.told(() -> with.answer(x, v));
        boolean isAnswer = told.matches("-?\\d+");
        Due.same(call + " with " + v, isAnswer ? "an answer" : told, "an answer");
    }

    private static void throwsAll(String call, String fair, String due, With with, int... values) {
        for (int v : values) {
            FairWalls x = Due.fair(fair);
            Due.same(call + " with " + v, Due.told(() -> with.answer(x, v)), due);
        }
    }

    private static void range(String call, String fair, int least, int greatest, String due, With with) {
        for (int v = least; v <= greatest; v++) {
            answers(call, fair, v, with);
        }
        throwsAll(call, fair, due, with, least - 1, greatest + 1, Integer.MIN_VALUE, Integer.MAX_VALUE);
    }

    private static void existing(String call, int greatest, With with) {
        range(call, FAIR, 0, greatest, Due.NO_SUCH, with);
    }

    /** Two dealers are asked for; that both are the same one is another matter. */
    private static void existingBut(int other, String call, String fair, int greatest, With with) {
        for (int v = 0; v <= greatest; v++) {
            if (v != other) {
                answers(call, fair, v, with);
            }
        }
        throwsAll(call, fair, Due.NO_SUCH, with, -1, greatest + 1, Integer.MIN_VALUE, Integer.MAX_VALUE);
    }

    private static void argument(String call, int least, int greatest, With with) {
        range(call, FAIR, least, greatest, Due.NO_ARGUMENT, with);
    }

    private static void ofText() {
        argument("append(c)", 0, 255, (x, c) -> x.append(c));
    }

    private static void ofQueries() {
        argument("about(what)", 0, 13, (x, what) -> x.about(what));
        existing("wallOf(w, 0)", 2, (x, w) -> x.wallOf(w, 0));
        argument("wallOf(2, what)", 0, 5, (x, what) -> x.wallOf(2, what));
        existing("metreOf(w, 0, 0)", 2, (x, w) -> x.metreOf(w, 0, 0));
        existing("metreOf(0, m, 0)", 3, (x, m) -> x.metreOf(0, m, 0));
        existing("metreOf(1, m, 1)", 29, (x, m) -> x.metreOf(1, m, 1));
        existing("metreOf(2, m, 2)", 4, (x, m) -> x.metreOf(2, m, 2));
        argument("metreOf(1, 29, what)", 0, 2, (x, what) -> x.metreOf(1, 29, what));
        existing("dealerOf(d, 0)", 3, (x, d) -> x.dealerOf(d, 0));
        argument("dealerOf(3, what)", 0, 11, (x, what) -> x.dealerOf(3, what));
        existing("plugOf(d, 0)", 3, (x, d) -> x.plugOf(d, 0));
        argument("plugOf(3, k)", 0, 2, (x, k) -> x.plugOf(3, k));
        argument("setting(what)", 0, 5, (x, what) -> x.setting(what));
        existing("free(w, 0)", 2, (x, w) -> x.free(w, 0));
        existing("free(w, 1)", 2, (x, w) -> x.free(w, 1));
        argument("free(2, way)", 0, 1, (x, way) -> x.free(2, way));
    }

    private static void ofActions() {
        argument("wall(length)", 4, 30, (x, length) -> x.wall(length));
        existing("outlet(w, 0, 4)", 2, (x, w) -> x.outlet(w, 0, 4));
        existing("outlet(0, m, 4)", 3, (x, m) -> x.outlet(0, m, 4));
        existing("outlet(1, m, 0)", 29, (x, m) -> x.outlet(1, m, 0));
        argument("outlet(2, 4, plugs)", 0, 4, (x, plugs) -> x.outlet(2, 4, plugs));
        argument("dealer(goods, 9, 3)", 0, 5, (x, goods) -> x.dealer(goods, 9, 3));
        argument("dealer(5, frontage, 0)", 1, 9, (x, frontage) -> x.dealer(5, frontage, 0));
        argument("dealer(0, 1, plugs)", 0, 3, (x, plugs) -> x.dealer(0, 1, plugs));
        existing("place(d, 1, 0)", 3, (x, d) -> x.place(d, 1, 0));
        existing("place(3, w, 0)", 2, (x, w) -> x.place(3, w, 0));
        existing("place(3, 0, m)", 3, (x, m) -> x.place(3, 0, m));
        existing("place(3, 1, m)", 29, (x, m) -> x.place(3, 1, m));
        existing("place(0, 2, m)", 4, (x, m) -> x.place(0, 2, m));
        range("leave(d)", "Aw09d010d010p0000p1008", 0, 1, Due.NO_SUCH, (x, d) -> x.leave(d));
        existingBut(1, "swap(d, 1)", FAIR, 3, (x, d) -> x.swap(d, 1));
        existingBut(0, "swap(0, e)", FAIR, 3, (x, e) -> x.swap(0, e));
        existingBut(3, "swap(3, e)", FAIR, 3, (x, e) -> x.swap(3, e));
        argument("days(n)", 1, 60, (x, n) -> x.days(n));
    }

    private static void ofSettings() {
        argument("set(what, 0)", 0, 5, (x, what) -> x.set(what, 0));
        argument("set(what, 9)", 0, 5, (x, what) -> x.set(what, 9));
        argument("set(0, v)", 0, 50, (x, v) -> x.set(0, v));
        argument("set(1, v)", 0, 9, (x, v) -> x.set(1, v));
        argument("set(2, v)", 0, 50, (x, v) -> x.set(2, v));
        argument("set(3, v)", 0, 50, (x, v) -> x.set(3, v));
        argument("set(4, v)", 0, 50, (x, v) -> x.set(4, v));
        argument("set(5, v)", 0, 9, (x, v) -> x.set(5, v));
        throwsAll("set(what, 51)", FAIR, Due.NO_ARGUMENT, (x, what) -> x.set(what, 51), -1, 0, 1, 2, 3, 4, 5, 6);
    }

    private static void ofWhatWouldBe() {
        existing("rentIf(d, 1, 0)", 3, (x, d) -> x.rentIf(d, 1, 0));
        existing("rentIf(3, w, 0)", 2, (x, w) -> x.rentIf(3, w, 0));
        existing("rentIf(2, 0, m)", 3, (x, m) -> x.rentIf(2, 0, m));
        existing("rentIf(0, 1, m)", 29, (x, m) -> x.rentIf(0, 1, m));
        existing("cheapest(d, 0)", 3, (x, d) -> x.cheapest(d, 0));
        existing("cheapest(d, 1)", 3, (x, d) -> x.cheapest(d, 1));
        argument("cheapest(3, what)", 0, 1, (x, what) -> x.cheapest(3, what));
        argument("bestSwap(what)", 0, 1, (x, what) -> x.bestSwap(what));
        existingBut(1, "why(d, 1)", FAIR, 3, (x, d) -> x.why(d, 1));
        existingBut(0, "why(0, e)", FAIR, 3, (x, e) -> x.why(0, e));
        existingBut(3, "why(3, e)", FAIR, 3, (x, e) -> x.why(3, e));
    }

    private static void ofScripts() {
        argument("runScript(n, 0)", 1, 3, (x, n) -> x.runScript(n, 0));
        argument("runScript(n, 40001)", 1, 3, (x, n) -> x.runScript(n, 40001));
        throwsAll("runScript(n, -1)", FAIR, Due.NO_ARGUMENT, (x, n) -> x.runScript(n, -1), 0, 1, 2, 3, 4);
        throwsAll("runScript(n, 16 digits)", FAIR, Due.NO_ARGUMENT,
                (x, n) -> x.runScript(n, 1000000000000000L), 0, 1, 2, 3, 4);
    }

    /** Of n commands the greatest script is answered, the next number has one digit too many. */
    private static void ofScriptLengths() {
        long beyond = 1;
        for (int n = 1; n <= 3; n++) {
            int commands = n;
            beyond *= 100000;
            long first = beyond;
            FairWalls x = Due.fair(FAIR);
            Due.is("least of " + n, x.runScript(n, 0), 0);
            Due.is("greatest of " + n, x.runScript(n, first - 1), 0);
            Due.noArgument("one beyond, of " + n, () -> x.runScript(commands, first));
            Due.noArgument("-1 of " + n, () -> x.runScript(commands, -1));
            Due.noArgument("greatest long of " + n, () -> x.runScript(commands, Long.MAX_VALUE));
            Due.noArgument("least long of " + n, () -> x.runScript(commands, Long.MIN_VALUE));
            // as an int it would be a script: the lower half is 40001
            Due.noArgument("a long of " + n, () -> x.runScript(commands, (1L << 62) + 40001));
        }
    }

    private static void ofSimulations() {
        argument("simulate(7, m)", 1, 60, (x, m) -> x.simulate(7, m));
        long[] seeds = {0, 1, -1, Integer.MIN_VALUE, Integer.MAX_VALUE, Long.MIN_VALUE, Long.MAX_VALUE};
        for (long seed : seeds) {
            argument("simulate(" + seed + ", m)", 1, 60, (x, m) -> x.simulate(seed, m));
        }
    }

    private static void ofSlots() {
        existing("save(slot)", 1, (x, slot) -> x.save(slot));
        existing("restore(slot)", 1, (x, slot) -> x.save(0) + x.save(1) + x.restore(slot));
    }

    /** No wall, no dealer: not even 0 exists. */
    private static void ofNothing() {
        int[] any = {-1, 0, 1, Integer.MIN_VALUE, Integer.MAX_VALUE};
        for (String fair : new String[] {"A", "Ad010"}) {
            throwsAll("no wall: wallOf(w, 0)", fair, Due.NO_SUCH, (x, w) -> x.wallOf(w, 0), any);
            throwsAll("no wall: metreOf(w, 0, 0)", fair, Due.NO_SUCH, (x, w) -> x.metreOf(w, 0, 0), any);
            throwsAll("no wall: free(w, 0)", fair, Due.NO_SUCH, (x, w) -> x.free(w, 0), any);
            throwsAll("no wall: outlet(w, 0, 0)", fair, Due.NO_SUCH, (x, w) -> x.outlet(w, 0, 0), any);
            throwsAll("no wall: place(0, w, 0)", fair, Due.NO_SUCH, (x, w) -> x.place(0, w, 0), any);
            throwsAll("no wall: rentIf(0, w, 0)", fair, Due.NO_SUCH, (x, w) -> x.rentIf(0, w, 0), any);
        }
        for (String fair : new String[] {"A", "Aw04"}) {
            throwsAll("no dealer: dealerOf(d, 0)", fair, Due.NO_SUCH, (x, d) -> x.dealerOf(d, 0), any);
            throwsAll("no dealer: plugOf(d, 0)", fair, Due.NO_SUCH, (x, d) -> x.plugOf(d, 0), any);
            throwsAll("no dealer: place(d, 0, 0)", fair, Due.NO_SUCH, (x, d) -> x.place(d, 0, 0), any);
            throwsAll("no dealer: leave(d)", fair, Due.NO_SUCH, (x, d) -> x.leave(d), any);
            throwsAll("no dealer: swap(d, 1)", fair, Due.NO_SUCH, (x, d) -> x.swap(d, 1), any);
            throwsAll("no dealer: rentIf(d, 0, 0)", fair, Due.NO_SUCH, (x, d) -> x.rentIf(d, 0, 0), any);
            throwsAll("no dealer: cheapest(d, 0)", fair, Due.NO_SUCH, (x, d) -> x.cheapest(d, 0), any);
            throwsAll("no dealer: why(0, e)", fair, Due.NO_SUCH, (x, e) -> x.why(0, e), any);
        }
    }

    /** 4 walls and 10 dealers: the last of each exists, the next does not. */
    private static void ofFull() {
        range("4 walls: wallOf(w, 0)", FULL, 0, 3, Due.NO_SUCH, (x, w) -> x.wallOf(w, 0));
        range("4 walls: metreOf(w, 3, 0)", FULL, 0, 3, Due.NO_SUCH, (x, w) -> x.metreOf(w, 3, 0));
        range("4 walls: metreOf(3, m, 0)", FULL, 0, 5, Due.NO_SUCH, (x, m) -> x.metreOf(3, m, 0));
        range("4 walls: free(w, 0)", FULL, 0, 3, Due.NO_SUCH, (x, w) -> x.free(w, 0));
        range("4 walls: outlet(w, 3, 1)", FULL, 0, 3, Due.NO_SUCH, (x, w) -> x.outlet(w, 3, 1));
        range("4 walls: place(2, w, 2)", FULL, 0, 3, Due.NO_SUCH, (x, w) -> x.place(2, w, 2));
        range("4 walls: rentIf(2, w, 2)", FULL, 0, 3, Due.NO_SUCH, (x, w) -> x.rentIf(2, w, 2));
        range("10 dealers: dealerOf(d, 0)", FULL, 0, 9, Due.NO_SUCH, (x, d) -> x.dealerOf(d, 0));
        range("10 dealers: plugOf(d, 2)", FULL, 0, 9, Due.NO_SUCH, (x, d) -> x.plugOf(d, 2));
        range("10 dealers: place(d, 1, 0)", FULL, 0, 9, Due.NO_SUCH, (x, d) -> x.place(d, 1, 0));
        existingBut(0, "10 dealers: swap(0, e)", FULL, 9, (x, e) -> x.swap(0, e));
        existingBut(9, "10 dealers: swap(d, 9)", FULL, 9, (x, d) -> x.swap(d, 9));
        range("10 dealers: rentIf(d, 0, 0)", FULL, 0, 9, Due.NO_SUCH, (x, d) -> x.rentIf(d, 0, 0));
        range("10 dealers: cheapest(d, 0)", FULL, 0, 9, Due.NO_SUCH, (x, d) -> x.cheapest(d, 0));
        existingBut(9, "10 dealers: why(9, e)", FULL, 9, (x, e) -> x.why(9, e));
        existingBut(0, "10 dealers: why(d, 0)", FULL, 9, (x, d) -> x.why(d, 0));
        FairWalls x = Due.fair(FULL);
        Due.noSuch("10 dealers: leave(10)", () -> x.leave(10));
        Due.noState("leave(8), who stands nowhere", () -> x.leave(8));
        Due.is("leave(9)", x.leave(9), 0);
    }

    /** The wall, metre or dealer is named ahead of the other arguments. */
    private static void firstNamed() {
        int[] noWall = {-1, 3, Integer.MIN_VALUE, Integer.MAX_VALUE};
        int[] noMetre = {-1, 4, Integer.MIN_VALUE, Integer.MAX_VALUE};
        int[] noDealer = {-1, 4, Integer.MIN_VALUE, Integer.MAX_VALUE};
        for (int bad : new int[] {-1, 99}) {
            throwsAll("wallOf(w, bad)", FAIR, Due.NO_SUCH, (x, w) -> x.wallOf(w, bad), noWall);
            throwsAll("metreOf(w, 0, bad)", FAIR, Due.NO_SUCH, (x, w) -> x.metreOf(w, 0, bad), noWall);
            throwsAll("metreOf(0, m, bad)", FAIR, Due.NO_SUCH, (x, m) -> x.metreOf(0, m, bad), noMetre);
            throwsAll("dealerOf(d, bad)", FAIR, Due.NO_SUCH, (x, d) -> x.dealerOf(d, bad), noDealer);
            throwsAll("plugOf(d, bad)", FAIR, Due.NO_SUCH, (x, d) -> x.plugOf(d, bad), noDealer);
            throwsAll("free(w, bad)", FAIR, Due.NO_SUCH, (x, w) -> x.free(w, bad), noWall);
            throwsAll("outlet(w, 0, bad)", FAIR, Due.NO_SUCH, (x, w) -> x.outlet(w, 0, bad), noWall);
            throwsAll("outlet(0, m, bad)", FAIR, Due.NO_SUCH, (x, m) -> x.outlet(0, m, bad), noMetre);
            throwsAll("cheapest(d, bad)", FAIR, Due.NO_SUCH, (x, d) -> x.cheapest(d, bad), noDealer);
        }
        throwsAll("swap(d, d), no such", FAIR, Due.NO_SUCH, (x, d) -> x.swap(d, d), noDealer);
        throwsAll("why(d, d), no such", FAIR, Due.NO_SUCH, (x, d) -> x.why(d, d), noDealer);
        throwsAll("swap(d, d)", FAIR, Due.NO_ARGUMENT, (x, d) -> x.swap(d, d), 0, 1, 2, 3);
        throwsAll("why(d, d)", FAIR, Due.NO_ARGUMENT, (x, d) -> x.why(d, d), 0, 1, 2, 3);
    }

    /** The argument is named ahead of the state. */
    private static void firstNamedWhenFull() {
        FairWalls x = new FairWalls();
        for (int i = 0; i < 120; i++) {
            x.append(i == 0 ? 'A' : 'l');
        }
        for (int c : new int[] {-1, 256, Integer.MIN_VALUE, Integer.MAX_VALUE}) {
            Due.noArgument("120 characters: append(" + c + ")", () -> x.append(c));
        }
        for (int c : new int[] {0, 'A', 255}) {
            Due.noState("120 characters: append(" + c + ")", () -> x.append(c));
        }
        int[] far = {Integer.MIN_VALUE, -1, 99, Integer.MAX_VALUE};
        throwsAll("4 walls: wall(length)", FULL, Due.NO_ARGUMENT, (y, length) -> y.wall(length), far);
        throwsAll("4 walls: wall(length)", FULL, Due.NO_ARGUMENT, (y, length) -> y.wall(length), 0, 3, 31);
        throwsAll("4 walls: wall(length)", FULL, Due.NO_STATE, (y, length) -> y.wall(length), 4, 5, 29, 30);
        throwsAll("10 dealers: dealer(goods, 1, 0)", FULL, Due.NO_ARGUMENT, (y, v) -> y.dealer(v, 1, 0), far);
        throwsAll("10 dealers: dealer(goods, 1, 0)", FULL, Due.NO_ARGUMENT, (y, v) -> y.dealer(v, 1, 0), 6);
        throwsAll("10 dealers: dealer(goods, 1, 0)", FULL, Due.NO_STATE, (y, v) -> y.dealer(v, 1, 0), 0, 5);
        throwsAll("10 dealers: dealer(0, frontage, 0)", FULL, Due.NO_ARGUMENT, (y, v) -> y.dealer(0, v, 0), far);
        throwsAll("10 dealers: dealer(0, frontage, 0)", FULL, Due.NO_ARGUMENT, (y, v) -> y.dealer(0, v, 0), 0, 10);
        throwsAll("10 dealers: dealer(0, frontage, 0)", FULL, Due.NO_STATE, (y, v) -> y.dealer(0, v, 0), 1, 9);
        throwsAll("10 dealers: dealer(0, 1, plugs)", FULL, Due.NO_ARGUMENT, (y, v) -> y.dealer(0, 1, v), far);
        throwsAll("10 dealers: dealer(0, 1, plugs)", FULL, Due.NO_ARGUMENT, (y, v) -> y.dealer(0, 1, v), 4);
        throwsAll("10 dealers: dealer(0, 1, plugs)", FULL, Due.NO_STATE, (y, v) -> y.dealer(0, 1, v), 0, 3);
    }

    /** The slot or dealer that does not exist is named ahead of what has not been saved or does not stand. */
    private static void firstNamedOfSlots() {
        int[] none = {-1, 2, Integer.MIN_VALUE, Integer.MAX_VALUE};
        throwsAll("nothing saved: restore(slot)", FAIR, Due.NO_SUCH, (x, slot) -> x.restore(slot), none);
        throwsAll("nothing saved: restore(slot)", FAIR, Due.NO_STATE, (x, slot) -> x.restore(slot), 0, 1);
        throwsAll("0 saved: restore(slot)", FAIR, Due.NO_STATE, (x, slot) -> x.save(0) + x.restore(slot), 1);
        throwsAll("1 saved: restore(slot)", FAIR, Due.NO_STATE, (x, slot) -> x.save(1) + x.restore(slot), 0);
        throwsAll("nobody stands: leave(d)", "Aw04d010", Due.NO_SUCH, (x, d) -> x.leave(d), -1, 1);
        throwsAll("nobody stands: leave(d)", "Aw04d010", Due.NO_STATE, (x, d) -> x.leave(d), 0);
    }
}
