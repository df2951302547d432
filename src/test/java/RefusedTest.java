import java.util.ArrayList;
import java.util.List;

/**
 * A call that throws changes nothing, and neither does a call that only asks: behind each such call the object
 * answers just what it answers without it, about the state, the remembered states, the slots and the text.
 */
public final class RefusedTest {
    /** 4 walls, 10 dealers, 7 of whom stand, two with the same goods side by side; two days are owed. */
    private static final String FULL = "Aw04w05w04w06o0012o1022o3001d012d012d123d231d310d420d511d033d111d090"
            + "p0000p1001p2002p3100p4103p5200p6300e402n02";

    private static final class Tried {
        final String name;
        final String due;
        final Due.CallOf call;

        Tried(String name, String due, Due.CallOf call) {
            this.name = name;
            this.due = due;
            this.call = call;
        }
    }

    private static final List<Tried> ALL = new ArrayList<>();

    public static void main(String[] args) {
        fullIsFull();
        refuseTextsAndSlots();
        refuseActions();
        refuseQueries();
        askOnly();
        for (Tried tried : ALL) {
            tryOn(tried);
        }
        refusedWhenNew();
        refusedUndo();
        refusedByTwoCalls();
        Due.end();
    }

    /** Its text has 120 characters and is no fair, 7 states are remembered, slot 0 is filled. */
    private static FairWalls full() {
        FairWalls x = Due.fair(FULL);
        for (int i = FULL.length(); i < 120; i++) {
            x.append('w');
        }
        x.swap(0, 1);
        x.save(0);
        x.leave(4);
        x.place(4, 1, 2);
        x.place(4, 1, 3);
        x.days(1);
        x.set(5, 1);
        x.swap(1, 0);
        return x;
    }

    private static void fullIsFull() {
        FairWalls x = full();
        Due.is("4 walls", x.about(0), 4);
        Due.is("10 dealers", x.about(1), 10);
        Due.is("7 who stand", x.about(2), 7);
        Due.is("a day", x.about(10), 3);
        Due.is("a swap of the day", x.about(11), 1);
        Due.is("a refusal", x.about(12), 1);
        Due.is("its text is no fair", x.errorPosition() == FairWalls.NONE ? 1 : 0, 0);
        Due.is("the last swap can be taken back", x.undo(), 6);
        Due.is("120 characters", x.clearText(), 120);
    }

    private static void look(StringBuilder told, Due.Call call) {
        told.append(Due.told(call)).append(' ');
    }

    private static void lookAtAll(StringBuilder told, FairWalls x) {
        for (int i = 0; i <= 13; i++) {
            int what = i;
            look(told, () -> x.about(what));
        }
        told.append("| ");
    }

    private static void lookAtWalls(StringBuilder told, FairWalls x) {
        for (int i = 0; i < x.about(0); i++) {
            int w = i;
            int length = x.wallOf(w, 0);
            for (int k = 1; k <= 5; k++) {
                int what = k;
                look(told, () -> x.wallOf(w, what));
            }
            for (int k = 0; k < 3 * length; k++) {
                int place = k;
                look(told, () -> x.metreOf(w, place / 3, place % 3));
            }
        }
        told.append("| ");
    }

    private static void lookAtDealers(StringBuilder told, FairWalls x) {
        for (int i = 0; i < x.about(1); i++) {
            int d = i;
            for (int k = 0; k <= 11; k++) {
                int what = k;
                look(told, () -> x.dealerOf(d, what));
            }
            look(told, () -> x.plugOf(d, 0));
            look(told, () -> x.plugOf(d, 1));
            look(told, () -> x.plugOf(d, 2));
        }
        told.append("| ");
    }

    /** Everything that an object tells now, and then, going back, what it remembers and keeps. */
    private static String everything(FairWalls x) {
        StringBuilder told = new StringBuilder();
        lookAtAll(told, x);
        lookAtWalls(told, x);
        lookAtDealers(told, x);
        for (int i = 0; i <= 5; i++) {
            int what = i;
            look(told, () -> x.setting(what));
        }
        for (int i = 0; i < 15; i++) {
            look(told, x::undo);
            look(told, () -> x.about(8));
            look(told, () -> x.about(12));
        }
        look(told, () -> x.restore(0));
        lookAtAll(told, x);
        look(told, () -> x.restore(1));
        look(told, x::errorPosition);
        look(told, x::clearText);
        return told.toString();
    }

    private static void tryOn(Tried tried) {
        FairWalls x = full();
        String answer = Due.told(() -> tried.call.answer(x));
        boolean isAnswer = answer.matches("-?\\d+");
        Due.same("full: " + tried.name, isAnswer ? "an answer" : answer, tried.due);
        Due.same("behind " + tried.name, everything(x), everything(full()));
    }

    private static void noSuch(String name, Due.CallOf call) {
        ALL.add(new Tried(name, Due.NO_SUCH, call));
    }

    private static void noArgument(String name, Due.CallOf call) {
        ALL.add(new Tried(name, Due.NO_ARGUMENT, call));
    }

    private static void noState(String name, Due.CallOf call) {
        ALL.add(new Tried(name, Due.NO_STATE, call));
    }

    private static void asks(String name, Due.CallOf call) {
        ALL.add(new Tried(name, "an answer", call));
    }

    private static void refuseTextsAndSlots() {
        noArgument("append(-1)", x -> x.append(-1));
        noArgument("append(256)", x -> x.append(256));
        noState("append('A')", x -> x.append('A'));
        noState("load()", x -> x.load());
        noSuch("save(-1)", x -> x.save(-1));
        noSuch("save(2)", x -> x.save(2));
        noSuch("restore(-1)", x -> x.restore(-1));
        noSuch("restore(2)", x -> x.restore(2));
        noState("restore(1)", x -> x.restore(1));
    }

    private static void refuseActions() {
        noArgument("wall(3)", x -> x.wall(3));
        noArgument("wall(31)", x -> x.wall(31));
        noState("wall(4)", x -> x.wall(4));
        noSuch("outlet(4, 0, 1)", x -> x.outlet(4, 0, 1));
        noSuch("outlet(-1, 0, 1)", x -> x.outlet(-1, 0, 1));
        noSuch("outlet(0, 4, 1)", x -> x.outlet(0, 4, 1));
        noSuch("outlet(1, -1, 1)", x -> x.outlet(1, -1, 1));
        noArgument("outlet(0, 0, 5)", x -> x.outlet(0, 0, 5));
        noArgument("outlet(0, 1, -1)", x -> x.outlet(0, 1, -1));
        noArgument("dealer(6, 1, 0)", x -> x.dealer(6, 1, 0));
        noArgument("dealer(0, 0, 0)", x -> x.dealer(0, 0, 0));
        noArgument("dealer(0, 10, 0)", x -> x.dealer(0, 10, 0));
        noArgument("dealer(0, 1, 4)", x -> x.dealer(0, 1, 4));
        noState("dealer(0, 1, 0)", x -> x.dealer(0, 1, 0));
        noSuch("place(10, 0, 0)", x -> x.place(10, 0, 0));
        noSuch("place(7, 4, 0)", x -> x.place(7, 4, 0));
        noSuch("place(8, 2, 4)", x -> x.place(8, 2, 4));
        noSuch("place(8, 3, -1)", x -> x.place(8, 3, -1));
        noSuch("leave(10)", x -> x.leave(10));
        noState("leave(9)", x -> x.leave(9));
        noSuch("swap(0, 10)", x -> x.swap(0, 10));
        noSuch("swap(-1, 0)", x -> x.swap(-1, 0));
        noArgument("swap(0, 0)", x -> x.swap(0, 0));
        noArgument("days(0)", x -> x.days(0));
        noArgument("days(61)", x -> x.days(61));
        noArgument("set(6, 0)", x -> x.set(6, 0));
        noArgument("set(0, 51)", x -> x.set(0, 51));
        noArgument("set(1, 10)", x -> x.set(1, 10));
        noArgument("set(5, 10)", x -> x.set(5, 10));
        noArgument("set(4, -1)", x -> x.set(4, -1));
    }

    private static void refuseQueries() {
        noArgument("about(14)", x -> x.about(14));
        noSuch("wallOf(4, 0)", x -> x.wallOf(4, 0));
        noArgument("wallOf(0, 6)", x -> x.wallOf(0, 6));
        noSuch("metreOf(0, 4, 0)", x -> x.metreOf(0, 4, 0));
        noArgument("metreOf(0, 3, 3)", x -> x.metreOf(0, 3, 3));
        noSuch("dealerOf(10, 0)", x -> x.dealerOf(10, 0));
        noArgument("dealerOf(9, 12)", x -> x.dealerOf(9, 12));
        noSuch("plugOf(10, 0)", x -> x.plugOf(10, 0));
        noArgument("plugOf(9, 3)", x -> x.plugOf(9, 3));
        noArgument("setting(6)", x -> x.setting(6));
        noSuch("free(4, 0)", x -> x.free(4, 0));
        noArgument("free(3, 2)", x -> x.free(3, 2));
        noSuch("rentIf(10, 0, 0)", x -> x.rentIf(10, 0, 0));
        noSuch("rentIf(0, 3, 6)", x -> x.rentIf(0, 3, 6));
        noSuch("cheapest(10, 0)", x -> x.cheapest(10, 0));
        noArgument("cheapest(0, 2)", x -> x.cheapest(0, 2));
        noArgument("bestSwap(2)", x -> x.bestSwap(2));
        noSuch("why(0, 10)", x -> x.why(0, 10));
        noArgument("why(3, 3)", x -> x.why(3, 3));
        noArgument("runScript(0, 0)", x -> x.runScript(0, 0));
        noArgument("runScript(1, 100000)", x -> x.runScript(1, 100000));
        noArgument("runScript(1, -1)", x -> x.runScript(1, -1));
        noArgument("simulate(1, 0)", x -> x.simulate(1, 0));
        noArgument("simulate(1, 61)", x -> x.simulate(1, 61));
    }

    private static void askOnly() {
        asks("errorPosition()", x -> x.errorPosition());
        asks("rentIf(0, 3, 5)", x -> x.rentIf(0, 3, 5));
        asks("rentIf(9, 0, 0)", x -> x.rentIf(9, 0, 0));
        asks("cheapest(4, 0)", x -> x.cheapest(4, 0));
        asks("cheapest(9, 1)", x -> x.cheapest(9, 1));
        asks("bestSwap(0)", x -> x.bestSwap(0));
        asks("bestSwap(1)", x -> x.bestSwap(1));
        asks("why(0, 1)", x -> x.why(0, 1));
        asks("why(9, 1)", x -> x.why(9, 1));
        asks("runScript: places and leaves", x -> x.runScript(3, 300001730360001L));
        asks("runScript: days, swaps, sets", x -> x.runScript(3, 400602010052000L));
        asks("runScript: plugs, a place refused", x -> x.runScript(3, 600046102417000L));
        asks("simulate(3, 60)", x -> x.simulate(3, 60));
        asks("simulate(-9, 60)", x -> x.simulate(-9, 60));
    }

    private static String rowOf(FairWalls x) {
        StringBuilder told = new StringBuilder();
        lookAtAll(told, x);
        look(told, x::undo);
        look(told, () -> x.restore(0));
        look(told, () -> x.restore(1));
        look(told, x::clearText);
        return told.toString();
    }

    /** A new object stays one, whatever throws. */
    private static void refusedWhenNew() {
        List<Due.CallOf> calls = new ArrayList<>();
        calls.add(x -> x.append(-1));
        calls.add(x -> x.load());
        calls.add(x -> x.undo());
        calls.add(x -> x.restore(0));
        calls.add(x -> x.restore(2));
        calls.add(x -> x.save(2));
        calls.add(x -> x.wall(3));
        calls.add(x -> x.outlet(0, 0, 0));
        calls.add(x -> x.dealer(0, 1, 4));
        calls.add(x -> x.place(0, 0, 0));
        calls.add(x -> x.leave(0));
        calls.add(x -> x.swap(0, 0));
        calls.add(x -> x.days(61));
        calls.add(x -> x.set(5, 10));
        String unused = rowOf(new FairWalls());
        for (int i = 0; i < calls.size(); i++) {
            Due.CallOf call = calls.get(i);
            FairWalls x = new FairWalls();
            Due.same("new: call " + i + " throws", Due.told(() -> call.answer(x)).replaceAll(".*Exception", ""), "");
            Due.same("new, behind call " + i, rowOf(x), unused);
        }
    }

    /** undo() with nothing remembered leaves the state and the slots as they are. */
    private static void refusedUndo() {
        FairWalls x = full();
        FairWalls y = full();
        x.restore(0);
        y.restore(0);
        Due.noState("undo behind restore", x::undo);
        Due.noState("undo behind restore again", x::undo);
        Due.same("behind a refused undo", everything(x), everything(y));
    }

    /** place() and swap() that are refused change nothing but the count of refusals. */
    private static void refusedByTwoCalls() {
        FairWalls x = full();
        FairWalls y = full();
        int[] reasons = {x.place(0, 3, 3), x.place(9, 3, 0), x.place(7, 0, 0), x.swap(9, 0), x.swap(0, 1)};
        int[] due = {1, 2, 3, 1, 2};
        for (int i = 0; i < due.length; i++) {
            Due.is("refusal " + i, reasons[i], due[i]);
        }
        Due.is("refusals", x.about(12), y.about(12) + 5);
        Due.is("five actions", x.undo(), 11);
        for (int i = 1; i < 5; i++) {
            x.undo();
        }
        Due.same("behind five refusals taken back", everything(x), everything(y));
        FairWalls z = full();
        z.place(0, 3, 3);
        z.swap(9, 0);
        StringBuilder behind = new StringBuilder();
        lookAtWalls(behind, z);
        lookAtDealers(behind, z);
        StringBuilder ahead = new StringBuilder();
        FairWalls y2 = full();
        lookAtWalls(ahead, y2);
        lookAtDealers(ahead, y2);
        Due.same("behind two refusals", behind.toString(), ahead.toString());
    }
}
