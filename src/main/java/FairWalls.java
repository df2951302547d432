import java.util.Arrays;

/** An antique fair that lets its walls by the metre; ../shared/DOC.md has the contract of each call, by promises. */
public final class FairWalls {
    public static final int NONE = -1;

    private static final int MAX_WALLS = 4;
    private static final int MIN_LENGTH = 4;
    private static final int MAX_LENGTH = 30;
    private static final int MAX_PLUGS = 4;
    private static final int MAX_DEALERS = 10;
    private static final int MAX_GOODS = 5;
    private static final int MAX_FRONTAGE = 9;
    private static final int MAX_WANTED = 3;
    private static final int MAX_DAYS = 60;
    private static final int MAX_TEXT = 120;
    private static final int MAX_SIGN = 255;
    private static final int MAX_REMEMBERED = 14;
    private static final int MAX_SLOTS = 2;
    private static final int MAX_COMMANDS = 3;
    private static final int MAX_TURNS = 60;
    private static final int SETTINGS = 6;

    private static final int METRE_COINS = 0;
    private static final int REACH = 1;
    private static final int END_COINS = 2;
    private static final int PLUG_COINS = 3;
    private static final int LACK_COINS = 4;
    private static final int DAY_SWAPS = 5;

    private final Fair fair = new Fair();
    private final Fair trial = new Fair();
    private final Past past = new Past();
    private final Slots slots = new Slots();
    private final FairText text = new FairText();
    private final int[] groups = new int[MAX_COMMANDS];

    public FairWalls() {
    }

    // ---- text

    public int append(int c) throws IllegalArgumentException, IllegalStateException {
        needArgument(inRange(c, 0, MAX_SIGN));
        needState(text.size() < MAX_TEXT);
        return text.add((char) c);
    }

    public int clearText() {
        return text.empty();
    }

    public int errorPosition() {
        return text.firstError();
    }

    public int load() throws IllegalStateException {
        needState(text.firstError() == NONE);
        fair.startAnew();
        past.forget();
        slots.forget();
        int leftOut = 0;
        text.goToCommands();
        for (int i = 0; i < MAX_TEXT && text.readCommand(); i++) {
            if (!Clerk.obeyCommand(fair, text)) {
                leftOut++;
            }
        }
        return leftOut;
    }

    // ---- what there is

    public int about(int what) throws IllegalArgumentException {
        needArgument(inRange(what, 0, 13));
        State s = fair.state;
        switch (what) {
            case 0: return s.walls;
            case 1: return s.dealers;
            case 2: return fair.standing();
            case 3: return fair.allMetres();
            case 4: return fair.allFreeMetres();
            case 5: return fair.allPlugs();
            case 6: return fair.allPlugsHad();
            case 7: return fair.allPlugsLacking();
            case 8: return fair.rents();
            case 9: return fair.allOwed();
            case 10: return s.day;
            case 11: return s.swaps;
            case 12: return s.refused;
            default: return fair.rivalPairs();
        }
    }

    public int wallOf(int w, int what) throws IndexOutOfBoundsException, IllegalArgumentException {
        needExists(fair.state.hasWall(w));
        needArgument(inRange(what, 0, 5));
        switch (what) {
            case 0: return fair.state.lengthOf(w);
            case 1: return fair.standingAt(w);
            case 2: return fair.plugsAt(w);
            case 3: return fair.plugsHadAt(w);
            case 4: return fair.longestFreeRow(w);
            default: return fair.startOfLongestFreeRow(w);
        }
    }

    public int metreOf(int w, int m, int what) throws IndexOutOfBoundsException, IllegalArgumentException {
        needExists(fair.state.hasMetre(w, m));
        needArgument(inRange(what, 0, 2));
        switch (what) {
            case 0: return fair.state.plugsOf(w, m);
            case 1: return fair.power.takenFrom(w, m);
            default: return fair.whoStandsAt(w, m);
        }
    }

    public int dealerOf(int d, int what) throws IndexOutOfBoundsException, IllegalArgumentException {
        State s = fair.state;
        needExists(s.hasDealer(d));
        needArgument(inRange(what, 0, 11));
        switch (what) {
            case 0: return s.goods[d];
            case 1: return s.frontage[d];
            case 2: return s.wanted[d];
            case 3: return s.wall[d];
            case 4: return s.first[d];
            case 5: return fair.power.plugsHad(d);
            case 6: return fair.plugsLacking(d);
            case 7: return fair.rentOf(d);
            case 8: return s.owed[d];
            case 9: return fair.endsOf(d);
            case 10: return fair.neighbours(d);
            default: return fair.rivals(d);
        }
    }

    public int plugOf(int d, int k) throws IndexOutOfBoundsException, IllegalArgumentException {
        needExists(fair.state.hasDealer(d));
        needArgument(inRange(k, 0, MAX_WANTED - 1));
        return fair.power.metreOfPlug(d, k);
    }

    public int setting(int what) throws IllegalArgumentException {
        needArgument(inRange(what, 0, SETTINGS - 1));
        return fair.state.settings[what];
    }

    public int free(int w, int way) throws IndexOutOfBoundsException, IllegalArgumentException {
        needExists(fair.state.hasWall(w));
        needArgument(inRange(way, 0, 1));
        return way == 0 ? fair.freeByMetres(w) : fair.freeByFrontages(w);
    }

    // ---- actions

    public int wall(int length) throws IllegalArgumentException, IllegalStateException {
        needArgument(Fair.isLength(length));
        needState(fair.state.walls < MAX_WALLS);
        past.remember(fair.state);
        return fair.openWall(length);
    }

    public int outlet(int w, int m, int plugs) throws IndexOutOfBoundsException, IllegalArgumentException {
        needExists(fair.state.hasMetre(w, m));
        needArgument(inRange(plugs, 0, MAX_PLUGS));
        past.remember(fair.state);
        return fair.putPlugs(w, m, plugs);
    }

    public int dealer(int goods, int frontage, int plugs) throws IllegalArgumentException, IllegalStateException {
        needArgument(Fair.isDealer(goods, frontage, plugs));
        needState(fair.state.dealers < MAX_DEALERS);
        past.remember(fair.state);
        return fair.admit(goods, frontage, plugs);
    }

    public int place(int d, int w, int m) throws IndexOutOfBoundsException {
        needExists(fair.state.hasDealer(d) && fair.state.hasMetre(w, m));
        past.remember(fair.state);
        return fair.countRefusal(fair.letStand(d, w, m));
    }

    public int leave(int d) throws IndexOutOfBoundsException, IllegalStateException {
        needExists(fair.state.hasDealer(d));
        needState(fair.state.stands(d));
        past.remember(fair.state);
        return fair.sendAway(d);
    }

    public int swap(int d, int e) throws IndexOutOfBoundsException, IllegalArgumentException {
        needExists(fair.state.hasDealer(d) && fair.state.hasDealer(e));
        needArgument(d != e);
        past.remember(fair.state);
        return fair.countRefusal(fair.exchange(d, e));
    }

    public int days(int n) throws IllegalArgumentException {
        needArgument(inRange(n, 1, MAX_DAYS));
        past.remember(fair.state);
        return fair.passDays(n);
    }

    public int set(int what, int v) throws IllegalArgumentException {
        needArgument(Fair.isSetting(what, v));
        past.remember(fair.state);
        return fair.changeSetting(what, v);
    }

    public int undo() throws IllegalStateException {
        needState(past.count() > 0);
        fair.become(past.takeLast());
        return past.count();
    }

    // ---- what would be; these and all following methods up to the save slots change nothing

    public int rentIf(int d, int w, int m) throws IndexOutOfBoundsException {
        needExists(fair.state.hasDealer(d) && fair.state.hasMetre(w, m));
        trial.become(fair.state);
        return trial.rentMovedTo(d, w, m);
    }

    public int cheapest(int d, int what) throws IndexOutOfBoundsException, IllegalArgumentException {
        needExists(fair.state.hasDealer(d));
        needArgument(inRange(what, 0, 1));
        trial.become(fair.state);
        int place = NONE;
        int least = NONE;
        for (int w = 0; w < fair.state.walls; w++) {
            for (int m = 0; m < fair.state.lengthOf(w); m++) {
                int rent = trial.rentMovedTo(d, w, m);
                if (rent != NONE && (least == NONE || rent < least)) {
                    least = rent;
                    place = 100 * w + m;
                }
            }
        }
        return what == 0 ? place : least;
    }

    public int bestSwap(int what) throws IllegalArgumentException {
        needArgument(inRange(what, 0, 1));
        int best = NONE;
        int most = fair.rents();
        for (int d = 0; d < fair.state.dealers; d++) {
            for (int e = d + 1; e < fair.state.dealers; e++) {
                int rents = rentsBehindSwap(d, e);
                if (rents > most) {
                    most = rents;
                    best = 10 * d + e;
                }
            }
        }
        return what == 0 || best == NONE ? best : most;
    }

    public int why(int d, int e) throws IndexOutOfBoundsException, IllegalArgumentException {
        needExists(fair.state.hasDealer(d) && fair.state.hasDealer(e));
        needArgument(d != e);
        return fair.swapReason(d, e);
    }

    // ---- scripts, simulations

    public int runScript(int n, long script) throws IllegalArgumentException {
        needArgument(inRange(n, 1, MAX_COMMANDS) && script >= 0);
        needArgument(splitScript(n, script) == 0);
        trial.become(fair.state);
        for (int i = 0; i < n && i < MAX_COMMANDS; i++) {
            if (!Clerk.obeyGroup(trial, groups[i])) {
                return i;
            }
        }
        return NONE;
    }

    public int simulate(long seed, int m) throws IllegalArgumentException {
        needArgument(inRange(m, 1, MAX_TURNS));
        trial.become(fair.state);
        long x = seed;
        for (int turn = 0; turn < m; turn++) {
            x = x * 6364136223846793005L + 1442695040888963407L;
            Clerk.takeTurn(trial, (int) (x >>> 33));
        }
        return 1000 * trial.rents() + 10 * trial.standing() + trial.state.walls;
    }

    // ---- save slots

    public int save(int slot) throws IndexOutOfBoundsException {
        needExists(inRange(slot, 0, MAX_SLOTS - 1));
        slots.keep(slot, fair.state);
        return fair.state.day;
    }

    public int restore(int slot) throws IndexOutOfBoundsException, IllegalStateException {
        needExists(inRange(slot, 0, MAX_SLOTS - 1));
        needState(slots.isFilled(slot));
        fair.become(slots.kept(slot));
        past.forget();
        return fair.state.day;
    }

    // ---- helpers

    private static boolean inRange(int v, int low, int high) {
        return v >= low && v <= high;
    }

    private static void needExists(boolean exists) {
        if (!exists) {
            throw new IndexOutOfBoundsException("no such wall, metre, dealer or save slot");
        }
    }

    private static void needArgument(boolean allowed) {
        if (!allowed) {
            throw new IllegalArgumentException("an argument is out of its range");
        }
    }

    private static void needState(boolean ready) {
        if (!ready) {
            throw new IllegalStateException("the fair is not in a state for this");
        }
    }

    private int rentsBehindSwap(int d, int e) {
        if (fair.swapReason(d, e) != 0) {
            return NONE;
        }
        trial.become(fair.state);
        trial.exchange(d, e);
        return trial.rents();
    }

    /** Answers what is left of the script above its n groups: 0, unless it has too many digits. */
    private long splitScript(int n, long script) {
        long rest = script;
        for (int i = n - 1; i >= 0 && i < MAX_COMMANDS; i--) {
            groups[i] = (int) (rest % 100000);
            rest /= 100000;
        }
        return rest;
    }

    /** Everything but the text and the save slots, as plain numbers that can be copied. */
    private static final class State {
        private static final int[] FIRST_SETTINGS = {6, 1, 5, 3, 4, 2};

        private final int[] length = new int[MAX_WALLS];
        private final int[] plugs = new int[MAX_WALLS * MAX_LENGTH];
        private final int[] goods = new int[MAX_DEALERS];
        private final int[] frontage = new int[MAX_DEALERS];
        private final int[] wanted = new int[MAX_DEALERS];
        private final int[] wall = new int[MAX_DEALERS];
        private final int[] first = new int[MAX_DEALERS];
        private final int[] owed = new int[MAX_DEALERS];
        private final int[] settings = new int[SETTINGS];
        private int walls;
        private int dealers;
        private int day;
        private int swaps;
        private int refused;

        State() {
            clear();
        }

        void clear() {
            Arrays.fill(length, 0);
            Arrays.fill(plugs, 0);
            Arrays.fill(goods, 0);
            Arrays.fill(frontage, 0);
            Arrays.fill(wanted, 0);
            Arrays.fill(wall, NONE);
            Arrays.fill(first, NONE);
            Arrays.fill(owed, 0);
            System.arraycopy(FIRST_SETTINGS, 0, settings, 0, SETTINGS);
            walls = 0;
            dealers = 0;
            day = 0;
            swaps = 0;
            refused = 0;
        }

        void copy(State other) {
            System.arraycopy(other.length, 0, length, 0, MAX_WALLS);
            System.arraycopy(other.plugs, 0, plugs, 0, MAX_WALLS * MAX_LENGTH);
            System.arraycopy(other.goods, 0, goods, 0, MAX_DEALERS);
            System.arraycopy(other.frontage, 0, frontage, 0, MAX_DEALERS);
            System.arraycopy(other.wanted, 0, wanted, 0, MAX_DEALERS);
            System.arraycopy(other.wall, 0, wall, 0, MAX_DEALERS);
            System.arraycopy(other.first, 0, first, 0, MAX_DEALERS);
            System.arraycopy(other.owed, 0, owed, 0, MAX_DEALERS);
            System.arraycopy(other.settings, 0, settings, 0, SETTINGS);
            walls = other.walls;
            dealers = other.dealers;
            day = other.day;
            swaps = other.swaps;
            refused = other.refused;
        }

        boolean hasWall(int w) {
            return w >= 0 && w < walls && w < MAX_WALLS;
        }

        boolean hasMetre(int w, int m) {
            return w >= 0 && w < walls && w < MAX_WALLS && m >= 0 && m < length[w] && m < MAX_LENGTH;
        }

        boolean hasDealer(int d) {
            return d >= 0 && d < dealers && d < MAX_DEALERS;
        }

        boolean stands(int d) {
            return d >= 0 && d < dealers && d < MAX_DEALERS && wall[d] != NONE;
        }

        boolean standsAt(int d, int w) {
            return d >= 0 && d < dealers && d < MAX_DEALERS && wall[d] == w && w != NONE;
        }

        int lengthOf(int w) {
            return hasWall(w) ? length[w] : 0;
        }

        int plugsOf(int w, int m) {
            return hasMetre(w, m) ? plugs[w * MAX_LENGTH + m] : 0;
        }
    }

    /** Who has which plugs; true of a state from shareOut() until that state changes. */
    private static final class Power {
        private final int[] taken = new int[MAX_WALLS * MAX_LENGTH];
        private final int[] metres = new int[MAX_DEALERS * MAX_WANTED];
        private final int[] had = new int[MAX_DEALERS];

        void shareOut(State s) {
            Arrays.fill(taken, 0);
            Arrays.fill(had, 0);
            for (int d = 0; d < s.dealers && d < MAX_DEALERS; d++) {
                if (s.stands(d)) {
                    serve(s, d);
                }
            }
        }

        private void serve(State s, int d) {
            int w = s.wall[d];
            for (int k = 0; k < s.wanted[d] && k < MAX_WANTED; k++) {
                int m = nearest(s, d);
                if (!s.hasMetre(w, m)) {
                    return;
                }
                taken[w * MAX_LENGTH + m]++;
                metres[d * MAX_WANTED + k] = m;
                had[d] = k + 1;
            }
        }

        /** Looks at the left of two metres equally far away first, since the lowest one is due. */
        private int nearest(State s, int d) {
            int w = s.wall[d];
            int first = s.first[d];
            int last = first + s.frontage[d] - 1;
            for (int m = first; m <= last; m++) {
                if (hasFreePlug(s, w, m)) {
                    return m;
                }
            }
            for (int away = 1; away <= s.settings[REACH]; away++) {
                if (hasFreePlug(s, w, first - away)) {
                    return first - away;
                }
                if (hasFreePlug(s, w, last + away)) {
                    return last + away;
                }
            }
            return NONE;
        }

        private boolean hasFreePlug(State s, int w, int m) {
            boolean isThere = w >= 0 && w < MAX_WALLS && m >= 0 && m < s.length[w] && m < MAX_LENGTH;
            return isThere && taken[w * MAX_LENGTH + m] < s.plugs[w * MAX_LENGTH + m];
        }

        int takenFrom(int w, int m) {
            return inRange(w, 0, MAX_WALLS - 1) && inRange(m, 0, MAX_LENGTH - 1) ? taken[w * MAX_LENGTH + m] : 0;
        }

        int plugsHad(int d) {
            return inRange(d, 0, MAX_DEALERS - 1) ? had[d] : 0;
        }

        int metreOfPlug(int d, int k) {
            boolean has = k >= 0 && k < MAX_WANTED && k < plugsHad(d);
            return has ? metres[d * MAX_WANTED + k] : NONE;
        }
    }

    /** A state, what follows from it, and its changes; a change answers NONE where the face would throw. */
    private static final class Fair {
        private static final int[] MAX_SETTINGS = {50, 9, 50, 50, 50, 9};

        private final State state = new State();
        private final Power power = new Power();

        static boolean isLength(int length) {
            return inRange(length, MIN_LENGTH, MAX_LENGTH);
        }

        static boolean isDealer(int goods, int frontage, int plugs) {
            return inRange(goods, 0, MAX_GOODS) && inRange(frontage, 1, MAX_FRONTAGE)
                    && inRange(plugs, 0, MAX_WANTED);
        }

        static boolean isSetting(int what, int v) {
            return inRange(what, 0, SETTINGS - 1) && inRange(v, 0, MAX_SETTINGS[what]);
        }

        // -- changes

        void startAnew() {
            state.clear();
            power.shareOut(state);
        }

        void become(State other) {
            state.copy(other);
            power.shareOut(state);
        }

        int openWall(int length) {
            if (!isLength(length) || state.walls < 0 || state.walls >= MAX_WALLS) {
                return NONE;
            }
            state.length[state.walls] = length;
            state.walls++;
            return state.walls - 1;
        }

        int putPlugs(int w, int m, int plugs) {
            if (!state.hasMetre(w, m) || !inRange(plugs, 0, MAX_PLUGS)) {
                return NONE;
            }
            int previous = state.plugs[w * MAX_LENGTH + m];
            state.plugs[w * MAX_LENGTH + m] = plugs;
            power.shareOut(state);
            return previous;
        }

        int admit(int goods, int frontage, int plugs) {
            int d = state.dealers;
            if (!isDealer(goods, frontage, plugs) || d < 0 || d >= MAX_DEALERS) {
                return NONE;
            }
            state.goods[d] = goods;
            state.frontage[d] = frontage;
            state.wanted[d] = plugs;
            state.wall[d] = NONE;
            state.first[d] = NONE;
            state.owed[d] = 0;
            state.dealers = d + 1;
            return d;
        }

        int letStand(int d, int w, int m) {
            int reason = placeReason(d, w, m);
            if (reason == 0) {
                state.wall[d] = w;
                state.first[d] = m;
                power.shareOut(state);
            }
            return reason;
        }

        int sendAway(int d) {
            if (!state.stands(d)) {
                return NONE;
            }
            state.wall[d] = NONE;
            state.first[d] = NONE;
            power.shareOut(state);
            return state.owed[d];
        }

        int exchange(int d, int e) {
            int reason = swapReason(d, e);
            if (reason == 0) {
                int wall = state.wall[d];
                int first = state.first[d];
                state.wall[d] = state.wall[e];
                state.first[d] = state.first[e];
                state.wall[e] = wall;
                state.first[e] = first;
                state.swaps++;
                power.shareOut(state);
            }
            return reason;
        }

        int passDays(int n) {
            if (!inRange(n, 1, MAX_DAYS)) {
                return NONE;
            }
            // nothing that a rent depends on changes with the days, so one day stands for all
            int together = 0;
            for (int d = 0; d < state.dealers && d < MAX_DEALERS; d++) {
                int rent = n * rentOf(d);
                state.owed[d] += rent;
                together += rent;
            }
            state.day += n;
            state.swaps = 0;
            return together;
        }

        int changeSetting(int what, int v) {
            if (!isSetting(what, v)) {
                return NONE;
            }
            int previous = state.settings[what];
            state.settings[what] = v;
            power.shareOut(state);
            return previous;
        }

        /** Apart from letStand() and exchange(), since what a text refuses counts nowhere. */
        int countRefusal(int reason) {
            if (reason != 0) {
                state.refused++;
            }
            return reason;
        }

        /** Answers the rent behind the move, or NONE, and then the dealer stands nowhere. */
        int rentMovedTo(int d, int w, int m) {
            sendAway(d);
            return letStand(d, w, m) == 0 ? rentOf(d) : NONE;
        }

        // -- places

        int placeReason(int d, int w, int m) {
            if (!state.hasDealer(d) || !state.hasMetre(w, m)) {
                return NONE;
            }
            if (state.stands(d)) {
                return 1;
            }
            if (m + state.frontage[d] > state.lengthOf(w)) {
                return 2;
            }
            return isFreeButFor(w, m, state.frontage[d], d, d) ? 0 : 3;
        }

        int swapReason(int d, int e) {
            if (!state.hasDealer(d) || !state.hasDealer(e) || d == e) {
                return NONE;
            }
            if (!state.stands(d) || !state.stands(e)) {
                return 1;
            }
            if (state.swaps >= state.settings[DAY_SWAPS]) {
                return 2;
            }
            if (!fitsBothAway(d, e)) {
                return 3;
            }
            boolean inTheWay = state.wall[d] == state.wall[e]
                    && overlap(state.first[e], state.frontage[d], state.first[d], state.frontage[e]);
            return fitsBothAway(e, d) && !inTheWay ? 0 : 4;
        }

        /** Tells whether d fits at the place of e, if both have left. */
        private boolean fitsBothAway(int d, int e) {
            int w = state.wall[e];
            int m = state.first[e];
            return m + state.frontage[d] <= state.lengthOf(w) && isFreeButFor(w, m, state.frontage[d], d, e);
        }

        private boolean isFreeButFor(int w, int m, int frontage, int d, int e) {
            for (int other = 0; other < state.dealers && other < MAX_DEALERS; other++) {
                if (other != d && other != e && state.standsAt(other, w)
                        && overlap(m, frontage, state.first[other], state.frontage[other])) {
                    return false;
                }
            }
            return true;
        }

        private static boolean overlap(int m, int frontage, int otherM, int otherFrontage) {
            return m < otherM + otherFrontage && otherM < m + frontage;
        }

        // -- dealers

        int standing() {
            int sum = 0;
            for (int d = 0; d < state.dealers; d++) {
                sum += state.stands(d) ? 1 : 0;
            }
            return sum;
        }

        int allOwed() {
            int sum = 0;
            for (int d = 0; d < state.dealers && d < MAX_DEALERS; d++) {
                sum += state.owed[d];
            }
            return sum;
        }

        int plugsLacking(int d) {
            return state.stands(d) ? state.wanted[d] - power.plugsHad(d) : 0;
        }

        int allPlugsHad() {
            int sum = 0;
            for (int d = 0; d < state.dealers; d++) {
                sum += power.plugsHad(d);
            }
            return sum;
        }

        int allPlugsLacking() {
            int sum = 0;
            for (int d = 0; d < state.dealers; d++) {
                sum += plugsLacking(d);
            }
            return sum;
        }

        int endsOf(int d) {
            if (!state.stands(d)) {
                return 0;
            }
            int atStart = state.first[d] == 0 ? 1 : 0;
            int behind = state.first[d] + state.frontage[d];
            return behind == state.lengthOf(state.wall[d]) ? atStart + 1 : atStart;
        }

        int neighbours(int d) {
            int sum = 0;
            for (int e = 0; e < state.dealers; e++) {
                sum += areNeighbours(d, e) ? 1 : 0;
            }
            return sum;
        }

        /** Neighbours with goods of the same kind. */
        int rivals(int d) {
            int sum = 0;
            for (int e = 0; e < state.dealers; e++) {
                sum += areNeighbours(d, e) && state.goods[d] == state.goods[e] ? 1 : 0;
            }
            return sum;
        }

        int rivalPairs() {
            int sum = 0;
            for (int d = 0; d < state.dealers; d++) {
                sum += rivals(d);
            }
            // each pair was met from both sides
            return sum / 2;
        }

        private boolean areNeighbours(int d, int e) {
            if (!state.stands(d) || !state.stands(e) || state.wall[d] != state.wall[e]) {
                return false;
            }
            return state.first[d] + state.frontage[d] == state.first[e]
                    || state.first[e] + state.frontage[e] == state.first[d];
        }

        int rentOf(int d) {
            if (!state.stands(d)) {
                return 0;
            }
            int rent = state.settings[METRE_COINS] * state.frontage[d]
                    + state.settings[END_COINS] * endsOf(d)
                    + state.settings[PLUG_COINS] * power.plugsHad(d);
            if (rivals(d) > 0) {
                rent -= rent / 4;
            }
            rent -= state.settings[LACK_COINS] * plugsLacking(d);
            return Math.max(rent, 0);
        }

        int rents() {
            int sum = 0;
            for (int d = 0; d < state.dealers; d++) {
                sum += rentOf(d);
            }
            return sum;
        }

        // -- walls

        int whoStandsAt(int w, int m) {
            for (int d = 0; d < state.dealers && d < MAX_DEALERS; d++) {
                if (state.standsAt(d, w) && overlap(m, 1, state.first[d], state.frontage[d])) {
                    return d;
                }
            }
            return NONE;
        }

        int standingAt(int w) {
            int sum = 0;
            for (int d = 0; d < state.dealers; d++) {
                sum += state.standsAt(d, w) ? 1 : 0;
            }
            return sum;
        }

        int plugsAt(int w) {
            int sum = 0;
            for (int m = 0; m < state.lengthOf(w); m++) {
                sum += state.plugsOf(w, m);
            }
            return sum;
        }

        int plugsHadAt(int w) {
            int sum = 0;
            for (int m = 0; m < state.lengthOf(w); m++) {
                sum += power.takenFrom(w, m);
            }
            return sum;
        }

        int freeByMetres(int w) {
            int sum = 0;
            for (int m = 0; m < state.lengthOf(w); m++) {
                sum += whoStandsAt(w, m) == NONE ? 1 : 0;
            }
            return sum;
        }

        int freeByFrontages(int w) {
            int left = state.lengthOf(w);
            for (int d = 0; d < state.dealers && d < MAX_DEALERS; d++) {
                left -= state.standsAt(d, w) ? state.frontage[d] : 0;
            }
            return left;
        }

        int longestFreeRow(int w) {
            int longest = 0;
            int row = 0;
            for (int m = 0; m < state.lengthOf(w); m++) {
                row = whoStandsAt(w, m) == NONE ? row + 1 : 0;
                longest = Math.max(longest, row);
            }
            return longest;
        }

        int startOfLongestFreeRow(int w) {
            int longest = longestFreeRow(w);
            int row = 0;
            for (int m = 0; m < state.lengthOf(w); m++) {
                row = whoStandsAt(w, m) == NONE ? row + 1 : 0;
                if (row > 0 && row == longest) {
                    return m + 1 - row;
                }
            }
            return NONE;
        }

        int allMetres() {
            int sum = 0;
            for (int w = 0; w < state.walls; w++) {
                sum += state.lengthOf(w);
            }
            return sum;
        }

        int allFreeMetres() {
            int sum = 0;
            for (int w = 0; w < state.walls; w++) {
                sum += freeByMetres(w);
            }
            return sum;
        }

        int allPlugs() {
            int sum = 0;
            for (int w = 0; w < state.walls; w++) {
                sum += plugsAt(w);
            }
            return sum;
        }
    }

    /** The remembered states, in rows that are used again, the oldest one overwritten first. */
    private static final class Past {
        private final State[] states = new State[MAX_REMEMBERED];
        private int next;
        private int count;

        Past() {
            for (int i = 0; i < MAX_REMEMBERED; i++) {
                states[i] = new State();
            }
        }

        int count() {
            return count;
        }

        void forget() {
            count = 0;
        }

        void remember(State s) {
            int row = Math.floorMod(next, MAX_REMEMBERED);
            states[row].copy(s);
            next = row + 1;
            count = Math.min(count + 1, MAX_REMEMBERED);
        }

        State takeLast() {
            next = Math.floorMod(next - 1, MAX_REMEMBERED);
            count = Math.max(count - 1, 0);
            return states[next];
        }
    }

    /** Apart from what is remembered, since undo() and restore() leave the slots as they are. */
    private static final class Slots {
        private final State[] states = new State[MAX_SLOTS];
        private final boolean[] filled = new boolean[MAX_SLOTS];

        Slots() {
            for (int i = 0; i < MAX_SLOTS; i++) {
                states[i] = new State();
            }
        }

        void forget() {
            for (int i = 0; i < MAX_SLOTS; i++) {
                filled[i] = false;
            }
        }

        boolean isFilled(int slot) {
            return inRange(slot, 0, MAX_SLOTS - 1) && filled[slot];
        }

        void keep(int slot, State s) {
            if (inRange(slot, 0, MAX_SLOTS - 1)) {
                states[slot].copy(s);
                filled[slot] = true;
            }
        }

        State kept(int slot) {
            return states[slot == 0 ? 0 : 1];
        }
    }

    /** The text buffer and a reader that goes through it command by command. */
    private static final class FairText {
        private static final String LETTERS = "wodplsne";
        private static final int NUMBERS = 3;
        // for each letter its numbers: digits, least, greatest; no number where there are 0 digits
        private static final int[] GRAMMAR = {
            2, 4, 30, 0, 0, 0, 0, 0, 0,
            1, 0, 3, 2, 0, 29, 1, 0, 4,
            1, 0, 5, 1, 1, 9, 1, 0, 3,
            1, 0, 9, 1, 0, 3, 2, 0, 29,
            1, 0, 9, 0, 0, 0, 0, 0, 0,
            1, 0, 9, 1, 0, 9, 0, 0, 0,
            2, 1, 60, 0, 0, 0, 0, 0, 0,
            1, 0, 5, 2, 0, 50, 0, 0, 0,
        };

        private final char[] signs = new char[MAX_TEXT];
        private final int[] numbers = new int[NUMBERS];
        private int size;
        private int position;
        private int letter;

        int size() {
            return size;
        }

        int add(char sign) {
            if (size >= 0 && size < MAX_TEXT) {
                signs[size] = sign;
                size++;
            }
            return size;
        }

        int empty() {
            int previous = size;
            size = 0;
            return previous;
        }

        int letter() {
            return letter;
        }

        int number(int i) {
            return inRange(i, 0, NUMBERS - 1) ? numbers[i] : NONE;
        }

        int firstError() {
            if (size == 0 || signs[0] != 'A') {
                return 0;
            }
            goToCommands();
            for (int i = 0; i < MAX_TEXT && position < size; i++) {
                if (!readCommand()) {
                    return position;
                }
            }
            return NONE;
        }

        void goToCommands() {
            position = 1;
        }

        /** Reads one command; if there is none, the position is where the rules are first broken. */
        boolean readCommand() {
            if (position < 0 || position >= size || position >= MAX_TEXT) {
                return false;
            }
            int row = LETTERS.indexOf(signs[position]);
            if (row < 0) {
                return false;
            }
            letter = signs[position];
            position++;
            for (int i = 0; i < NUMBERS; i++) {
                int rule = (row * NUMBERS + i) * 3;
                if (rule + 2 >= GRAMMAR.length) {
                    return false;
                }
                numbers[i] = readNumber(GRAMMAR[rule], GRAMMAR[rule + 1], GRAMMAR[rule + 2]);
                if (numbers[i] == NONE) {
                    return false;
                }
            }
            return true;
        }

        /** Refuses a digit as soon as no number from least to greatest goes on from it. */
        private int readNumber(int digits, int least, int greatest) {
            int number = 0;
            for (int left = digits; left > 0; left--) {
                int digit = readDigit();
                int span = left == 2 ? 10 : 1;
                int low = (number * 10 + digit) * span;
                if (digit == NONE || low + span - 1 < least || low > greatest) {
                    return NONE;
                }
                number = number * 10 + digit;
                position++;
            }
            return number;
        }

        private int readDigit() {
            if (position < 0 || position >= size || position >= MAX_TEXT) {
                return NONE;
            }
            char sign = signs[position];
            return sign >= '0' && sign <= '9' ? sign - '0' : NONE;
        }
    }

    /** Gives a fair the orders of texts, scripts and simulations. */
    private static final class Clerk {
        private Clerk() {
        }

        /** Tells whether the command was done, and not left out. */
        static boolean obeyCommand(Fair fair, FairText text) {
            int a = text.number(0);
            int b = text.number(1);
            int c = text.number(2);
            switch (text.letter()) {
                case 'w': return fair.openWall(a) != NONE;
                case 'o': return fair.putPlugs(a, b, c) != NONE;
                case 'd': return fair.admit(a, b, c) != NONE;
                case 'p': return fair.letStand(a, b, c) == 0;
                case 'l': return fair.sendAway(a) != NONE;
                case 's': return fair.exchange(a, b) == 0;
                case 'n': return fair.passDays(a) != NONE;
                default: return fair.changeSetting(a, b) != NONE;
            }
        }

        /** Tells whether the command of five digits succeeds. */
        static boolean obeyGroup(Fair fair, int group) {
            int a = group / 1000 % 10;
            int b = group / 100 % 10;
            int c = group / 10 % 10;
            int d = group % 10;
            int tail = group % 100;
            switch (group / 10000) {
                case 1: return fair.letStand(a, b, tail) == 0;
                case 2: return tail == 0 && fair.exchange(a, b) == 0;
                case 3: return b == 0 && tail == 0 && fair.sendAway(a) != NONE;
                case 4: return a == 0 && b == 0 && fair.passDays(tail) != NONE;
                case 5: return b == 0 && fair.changeSetting(a, tail) != NONE;
                case 6: return fair.putPlugs(a, 10 * b + c, d) != NONE;
                case 7: return b == 0 && fair.state.hasDealer(a) && fair.rentOf(a) <= tail;
                case 8: return b == 0 && c == 0 && fair.state.hasDealer(a) && fair.power.plugsHad(a) >= d;
                case 9: return b == 0 && fair.state.hasWall(a) && fair.freeByMetres(a) >= tail;
                default: return false;
            }
        }

        static void takeTurn(Fair fair, int r) {
            int q = r / 16;
            switch (r % 16) {
                case 0: fair.openWall(4 + q % 27); break;
                case 1:
                case 2: fair.putPlugs(q % 4, q / 4 % 30, q / 128 % 5); break;
                case 3:
                case 4:
                case 5: fair.admit(q % 6, 1 + q / 8 % 9, q / 128 % 4); break;
                case 6:
                case 7:
                case 8:
                case 9: fair.letStand(q % 10, q / 16 % 4, q / 64 % 30); break;
                case 10: fair.sendAway(q % 10); break;
                case 11:
                case 12: fair.exchange(q % 10, q / 16 % 10); break;
                case 13: fair.changeSetting(q % 6, q / 8 % 12); break;
                default: fair.passDays(1 + q % 5); break;
            }
        }
    }
}
