import java.util.ArrayDeque;
import java.util.ArrayList;
import java.util.Arrays;
import java.util.Deque;
import java.util.List;
import java.util.Random;
import java.util.regex.Matcher;
import java.util.regex.Pattern;

/**
 * Runs of calls against a second writing of the document: a grid of metres, exceptions instead of codes, a
 * regular expression for the text. The runs are always the same ones: the seeds are written here.
 */
public final class ModelTest {
    private static final int RUNS = 400;
    private static final int CALLS = 512;

    private static final class Model {
        static final int[] MOST = {50, 9, 50, 50, 50, 9};
        static final String COMMAND = "(?:w(?:0[4-9]|[12]\\d|30)|o[0-3][0-2]\\d[0-4]|d[0-5][1-9][0-3]|p\\d[0-3][0-2]\\d"
                + "|l\\d|s\\d\\d|n(?:0[1-9]|[1-5]\\d|60)|e[0-5](?:[0-4]\\d|50))";
        static final Pattern FAIR = Pattern.compile("A" + COMMAND + "*", Pattern.DOTALL);
        static final Pattern ONE = Pattern.compile(COMMAND);

        List<int[]> plugs = new ArrayList<>();
        List<int[]> who = new ArrayList<>();
        List<int[]> dealers = new ArrayList<>(); // goods, frontage, wanted, wall, first, owed
        int[] settings = {6, 1, 5, 3, 4, 2};
        int day;
        int swaps;
        int refused;
        Deque<Model> past = new ArrayDeque<>();
        Model[] slots = new Model[2];
        StringBuilder text = new StringBuilder();

        Model state() {
            Model copy = new Model();
            copy.take(this);
            return copy;
        }

        void take(Model other) {
            plugs = deep(other.plugs);
            who = deep(other.who);
            dealers = deep(other.dealers);
            settings = other.settings.clone();
            day = other.day;
            swaps = other.swaps;
            refused = other.refused;
        }

        static List<int[]> deep(List<int[]> rows) {
            List<int[]> copy = new ArrayList<>();
            for (int[] row : rows) {
                copy.add(row.clone());
            }
            return copy;
        }

        void action() {
            past.addLast(state());
            if (past.size() > 14) {
                past.removeFirst();
            }
        }

        static void exists(boolean yes) {
            if (!yes) {
                throw new IndexOutOfBoundsException();
            }
        }

        static void argument(boolean yes) {
            if (!yes) {
                throw new IllegalArgumentException();
            }
        }

        static void ready(boolean yes) {
            if (!yes) {
                throw new IllegalStateException();
            }
        }

        boolean isWall(int w) {
            return w >= 0 && w < plugs.size();
        }

        boolean isMetre(int w, int m) {
            return isWall(w) && m >= 0 && m < plugs.get(w).length;
        }

        boolean isDealer(int d) {
            return d >= 0 && d < dealers.size();
        }

        // -- text

        int append(int c) {
            argument(c >= 0 && c <= 255);
            ready(text.length() < 120);
            text.append((char) c);
            return text.length();
        }

        int clearText() {
            int length = text.length();
            text.setLength(0);
            return length;
        }

        int errorPosition() {
            for (int i = 1; i <= text.length(); i++) {
                Matcher matcher = FAIR.matcher(text.substring(0, i));
                if (!matcher.matches() && !matcher.hitEnd()) {
                    return i - 1;
                }
            }
            return FAIR.matcher(text).matches() ? -1 : text.length();
        }

        int load() {
            ready(errorPosition() == -1);
            take(new Model());
            past.clear();
            slots = new Model[2];
            int out = 0;
            Matcher matcher = ONE.matcher(text.substring(1));
            while (matcher.find()) {
                try {
                    out += command(matcher.group()) ? 0 : 1;
                } catch (RuntimeException e) {
                    out++;
                }
            }
            past.clear();
            refused = 0;
            return out;
        }

        boolean command(String c) {
            int a = c.charAt(1) - '0';
            switch (c.charAt(0)) {
                case 'w': wall(Integer.parseInt(c.substring(1))); return true;
                case 'o': outlet(a, Integer.parseInt(c.substring(2, 4)), c.charAt(4) - '0'); return true;
                case 'd': dealer(a, c.charAt(2) - '0', c.charAt(3) - '0'); return true;
                case 'p': return place(a, c.charAt(2) - '0', Integer.parseInt(c.substring(3))) == 0;
                case 'l': leave(a); return true;
                case 's': return swap(a, c.charAt(2) - '0') == 0;
                case 'n': days(Integer.parseInt(c.substring(1))); return true;
                default: set(a, Integer.parseInt(c.substring(2))); return true;
            }
        }

        // -- what there is

        /** For each dealer the metres of the plugs, in the order in which they are taken. */
        List<List<Integer>> power() {
            List<int[]> left = deep(plugs);
            List<List<Integer>> taken = new ArrayList<>();
            for (int[] dealer : dealers) {
                List<Integer> metres = new ArrayList<>();
                taken.add(metres);
                for (int k = 0; k < dealer[2] && dealer[3] >= 0; k++) {
                    int[] wall = left.get(dealer[3]);
                    int best = -1;
                    for (int m = 0; m < wall.length; m++) {
                        boolean near = wall[m] > 0 && away(dealer, m) <= settings[1];
                        if (near && (best < 0 || away(dealer, m) < away(dealer, best))) {
                            best = m;
                        }
                    }
                    if (best >= 0) {
                        wall[best]--;
                        metres.add(best);
                    }
                }
            }
            return taken;
        }

        static int away(int[] dealer, int m) {
            int nearest = 99;
            for (int i = 0; i < dealer[1]; i++) {
                nearest = Math.min(nearest, Math.abs(dealer[4] + i - m));
            }
            return nearest;
        }

        int about(int what) {
            argument(what >= 0 && what <= 13);
            int sum = 0;
            for (int d = 0; d < dealers.size(); d++) {
                sum += what == 2 && dealers.get(d)[3] >= 0 ? 1 : 0;
                sum += what == 6 ? dealerOf(d, 5) : what == 7 ? dealerOf(d, 6) : 0;
                sum += what == 8 ? dealerOf(d, 7) : what == 9 ? dealerOf(d, 8) : 0;
                for (int e = 0; e < d && what == 13; e++) {
                    sum += besides(d, e) && dealers.get(d)[0] == dealers.get(e)[0] ? 1 : 0;
                }
            }
            for (int w = 0; w < plugs.size(); w++) {
                sum += what == 3 ? wallOf(w, 0) : what == 4 ? free(w, 0) : what == 5 ? wallOf(w, 2) : 0;
            }
            return what == 0 ? plugs.size() : what == 1 ? dealers.size() : what == 10 ? day : what == 11 ? swaps
                    : what == 12 ? refused : sum;
        }

        int wallOf(int w, int what) {
            exists(isWall(w));
            argument(what >= 0 && what <= 5);
            int[] row = who.get(w);
            int answer = 0;
            if (what == 0) {
                return row.length;
            }
            if (what == 1) {
                return (int) dealers.stream().filter(dealer -> dealer[3] == w).count();
            }
            if (what == 2) {
                return Arrays.stream(plugs.get(w)).sum();
            }
            if (what == 3) {
                for (int m = 0; m < row.length; m++) {
                    answer += metreOf(w, m, 1);
                }
                return answer;
            }
            for (int size = row.length; size > 0; size--) {
                for (int m = 0; m + size <= row.length; m++) {
                    if (Arrays.stream(row, m, m + size).allMatch(d -> d < 0)) {
                        return what == 4 ? size : m;
                    }
                }
            }
            return what == 4 ? 0 : -1;
        }

        int metreOf(int w, int m, int what) {
            exists(isMetre(w, m));
            argument(what >= 0 && what <= 2);
            int sum = 0;
            List<List<Integer>> power = power();
            for (int d = 0; d < dealers.size(); d++) {
                for (int metre : power.get(d)) {
                    sum += dealers.get(d)[3] == w && metre == m ? 1 : 0;
                }
            }
            return what == 0 ? plugs.get(w)[m] : what == 1 ? sum : who.get(w)[m];
        }

        boolean besides(int d, int e) {
            int[] a = dealers.get(d);
            int[] b = dealers.get(e);
            return d != e && a[3] >= 0 && a[3] == b[3] && (a[4] + a[1] == b[4] || b[4] + b[1] == a[4]);
        }

        int dealerOf(int d, int what) {
            exists(isDealer(d));
            argument(what >= 0 && what <= 11);
            int[] a = dealers.get(d);
            int owed = a[5];
            if (what < 5 || what == 8) {
                return what == 8 ? owed : a[what];
            }
            if (a[3] < 0) {
                return 0;
            }
            int had = power().get(d).size();
            int length = plugs.get(a[3]).length;
            int ends = (a[4] == 0 ? 1 : 0) + (a[4] + a[1] == length ? 1 : 0);
            int all = 0;
            int same = 0;
            for (int e = 0; e < dealers.size(); e++) {
                all += besides(d, e) ? 1 : 0;
                same += besides(d, e) && dealers.get(e)[0] == a[0] ? 1 : 0;
            }
            int rent = settings[0] * a[1] + settings[2] * ends + settings[3] * had;
            rent = same == 0 ? rent : rent - (int) Math.floor(rent / 4.0);
            rent = Math.max(0, rent - settings[4] * (a[2] - had));
            int[] answers = {had, a[2] - had, rent, owed, ends, all, same};
            return answers[what - 5];
        }

        int plugOf(int d, int k) {
            exists(isDealer(d));
            argument(k >= 0 && k <= 2);
            List<Integer> metres = power().get(d);
            return k < metres.size() ? metres.get(k) : -1;
        }

        int setting(int what) {
            argument(what >= 0 && what <= 5);
            return settings[what];
        }

        int free(int w, int way) {
            exists(isWall(w));
            argument(way == 0 || way == 1);
            return (int) Arrays.stream(who.get(w)).filter(d -> d < 0).count();
        }

        // -- actions

        int wall(int length) {
            argument(length >= 4 && length <= 30);
            ready(plugs.size() < 4);
            action();
            plugs.add(new int[length]);
            int[] nobody = new int[length];
            Arrays.fill(nobody, -1);
            who.add(nobody);
            return plugs.size() - 1;
        }

        int outlet(int w, int m, int count) {
            exists(isMetre(w, m));
            argument(count >= 0 && count <= 4);
            action();
            int before = plugs.get(w)[m];
            plugs.get(w)[m] = count;
            return before;
        }

        int dealer(int goods, int frontage, int count) {
            argument(goods >= 0 && goods <= 5 && frontage >= 1 && frontage <= 9 && count >= 0 && count <= 3);
            ready(dealers.size() < 10);
            action();
            dealers.add(new int[] {goods, frontage, count, -1, -1, 0});
            return dealers.size() - 1;
        }

        boolean fits(int d, int w, int m) {
            for (int i = m; i < m + dealers.get(d)[1]; i++) {
                if (!isMetre(w, i) || who.get(w)[i] >= 0) {
                    return false;
                }
            }
            return true;
        }

        void put(int d, int w, int m) {
            dealers.get(d)[3] = w;
            dealers.get(d)[4] = m;
            for (int i = 0; i < dealers.get(d)[1]; i++) {
                who.get(w)[m + i] = d;
            }
        }

        void lift(int d) {
            dealers.get(d)[3] = -1;
            dealers.get(d)[4] = -1;
            for (int[] row : who) {
                for (int m = 0; m < row.length; m++) {
                    row[m] = row[m] == d ? -1 : row[m];
                }
            }
        }

        int place(int d, int w, int m) {
            exists(isDealer(d));
            exists(isMetre(w, m));
            action();
            int last = m + dealers.get(d)[1] - 1;
            int reason = dealers.get(d)[3] >= 0 ? 1 : !isMetre(w, last) ? 2 : fits(d, w, m) ? 0 : 3;
            if (reason == 0) {
                put(d, w, m);
            } else {
                refused++;
            }
            return reason;
        }

        int leave(int d) {
            exists(isDealer(d));
            ready(dealers.get(d)[3] >= 0);
            action();
            lift(d);
            return dealers.get(d)[5];
        }

        int swap(int d, int e) {
            int reason = why(d, e);
            action();
            if (reason == 0) {
                int[] a = dealers.get(d).clone();
                int[] b = dealers.get(e).clone();
                lift(d);
                lift(e);
                put(d, b[3], b[4]);
                put(e, a[3], a[4]);
                swaps++;
            } else {
                refused++;
            }
            return reason;
        }

        int days(int n) {
            argument(n >= 1 && n <= 60);
            action();
            int sum = 0;
            for (int i = 0; i < n; i++) {
                for (int d = 0; d < dealers.size(); d++) {
                    int rent = dealerOf(d, 7);
                    dealers.get(d)[5] += rent;
                    sum += rent;
                }
                day++;
                swaps = 0;
            }
            return sum;
        }

        int set(int what, int v) {
            argument(what >= 0 && what <= 5);
            argument(v >= 0 && v <= MOST[what]);
            action();
            int before = settings[what];
            settings[what] = v;
            return before;
        }

        int undo() {
            ready(!past.isEmpty());
            take(past.removeLast());
            return past.size();
        }

        // -- what would be

        int rentIf(int d, int w, int m) {
            exists(isDealer(d));
            exists(isMetre(w, m));
            Model copy = state();
            copy.lift(d);
            if (!copy.fits(d, w, m)) {
                return -1;
            }
            copy.put(d, w, m);
            return copy.dealerOf(d, 7);
        }

        int cheapest(int d, int what) {
            exists(isDealer(d));
            argument(what == 0 || what == 1);
            long least = Long.MAX_VALUE;
            for (int w = 0; w < plugs.size(); w++) {
                for (int m = 0; m < plugs.get(w).length; m++) {
                    int rent = rentIf(d, w, m);
                    least = rent < 0 ? least : Math.min(least, 1000L * rent + 100 * w + m);
                }
            }
            return least == Long.MAX_VALUE ? -1 : (int) (what == 0 ? least % 1000 : least / 1000);
        }

        int bestSwap(int what) {
            argument(what == 0 || what == 1);
            int now = about(8);
            int best = -1;
            int most = -1;
            for (int number = 99; number > 0; number--) {
                int d = number / 10;
                int e = number % 10;
                if (d < e && isDealer(e) && why(d, e) == 0) {
                    Model copy = state();
                    copy.swap(d, e);
                    int rents = copy.about(8);
                    if (rents > now && rents >= most) {
                        best = number;
                        most = rents;
                    }
                }
            }
            return what == 0 ? best : most;
        }

        int why(int d, int e) {
            exists(isDealer(d) && isDealer(e));
            argument(d != e);
            int[] a = dealers.get(d);
            int[] b = dealers.get(e);
            if (a[3] < 0 || b[3] < 0) {
                return 1;
            }
            if (swaps >= settings[5]) {
                return 2;
            }
            Model copy = state();
            copy.lift(d);
            copy.lift(e);
            if (!copy.fits(d, b[3], b[4])) {
                return 3;
            }
            copy.put(d, b[3], b[4]);
            return copy.fits(e, a[3], a[4]) ? 0 : 4;
        }

        // -- scripts, simulations

        int runScript(int n, long script) {
            argument(n >= 1 && n <= 3);
            argument(script >= 0 && Long.toString(script).length() <= 5 * n);
            String digits = String.format("%0" + 5 * n + "d", script);
            Model copy = state();
            for (int i = 0; i < n; i++) {
                String group = digits.substring(5 * i, 5 * i + 5);
                try {
                    if (!copy.group(group)) {
                        return i;
                    }
                } catch (RuntimeException e) {
                    return i;
                }
            }
            return -1;
        }

        boolean group(String g) {
            int a = g.charAt(1) - '0';
            int b = g.charAt(2) - '0';
            int last = g.charAt(4) - '0';
            int two = Integer.parseInt(g.substring(3));
            if (g.matches("1....")) {
                return place(a, b, two) == 0;
            } else if (g.matches("2..00")) {
                return swap(a, b) == 0;
            } else if (g.matches("3.000")) {
                return leave(a) >= 0;
            } else if (g.matches("400..")) {
                return days(two) >= 0;
            } else if (g.matches("5.0..")) {
                return set(a, two) >= 0;
            } else if (g.matches("6....")) {
                return outlet(a, Integer.parseInt(g.substring(2, 4)), last) >= 0;
            } else if (g.matches("7.0..")) {
                return dealerOf(a, 7) <= two;
            } else if (g.matches("8.00.")) {
                return dealerOf(a, 5) >= last;
            }
            return g.matches("9.0..") && free(a, 1) >= two;
        }

        int simulate(long seed, int m) {
            argument(m >= 1 && m <= 60);
            Model copy = state();
            long x = seed;
            for (int i = 0; i < m; i++) {
                x = x * 6364136223846793005L + 1442695040888963407L;
                int r = (int) (x >>> 33);
                try {
                    copy.turn(r % 16, r / 16);
                } catch (RuntimeException e) {
                    // left out
                }
            }
            return 1000 * copy.about(8) + 10 * copy.about(2) + copy.about(0);
        }

        void turn(int kind, int q) {
            if (kind == 0) {
                wall(4 + q % 27);
            } else if (kind <= 2) {
                outlet(q % 4, q / 4 % 30, q / 128 % 5);
            } else if (kind <= 5) {
                dealer(q % 6, 1 + q / 8 % 9, q / 128 % 4);
            } else if (kind <= 9) {
                place(q % 10, q / 16 % 4, q / 64 % 30);
            } else if (kind == 10) {
                leave(q % 10);
            } else if (kind <= 12) {
                swap(q % 10, q / 16 % 10);
            } else if (kind == 13) {
                set(q % 6, q / 8 % 12);
            } else {
                days(1 + q % 5);
            }
        }

        // -- save slots

        int save(int slot) {
            exists(slot == 0 || slot == 1);
            slots[slot] = state();
            return day;
        }

        int restore(int slot) {
            exists(slot == 0 || slot == 1);
            ready(slots[slot] != null);
            take(slots[slot]);
            past.clear();
            return day;
        }
    }

    /** One run: a fair and its model, given the same calls. */
    private static final class Run {
        final int number;
        final Random random;
        final FairWalls x = new FairWalls();
        final Model y = new Model();
        final StringBuilder told = new StringBuilder();
        int calls;
        boolean wrong;

        Run(int number) {
            this.number = number;
            this.random = new Random(number);
        }

        void same(String call, Due.Call mine, Due.Call due) {
            if (over()) {
                return;
            }
            calls++;
            String got = told(mine);
            String want = told(due);
            told.append(call).append(" -> ").append(got).append('\n');
            if (!got.equals(want)) {
                wrong = true;
                System.out.println("run " + number + ":\n" + told + "due is " + want);
            }
        }

        boolean over() {
            return wrong || calls >= CALLS;
        }

        static String told(Due.Call call) {
            try {
                return Integer.toString(call.answer());
            } catch (RuntimeException e) {
                return e.getClass().getSimpleName();
            }
        }

        int upTo(int most) {
            return random.nextInt(most + 1);
        }

        /** 0 to most, or now and then one beside it or far off. */
        int near(int most) {
            int kind = random.nextInt(60);
            return kind == 0 ? -1 : kind == 1 ? most + 1 : kind == 2 ? random.nextInt() : upTo(most);
        }

        int someWall() {
            return near(Math.max(y.plugs.size() - 1, 0));
        }

        int someMetre() {
            return near(random.nextInt(3) == 0 ? 29 : 11);
        }

        int someDealer() {
            return near(Math.max(y.dealers.size() - 1, 0));
        }

        void act() {
            int a = someDealer();
            int b = someDealer();
            int w = someWall();
            int m = someMetre();
            int kind = random.nextInt(40);
            if (kind < 2) {
                int length = random.nextInt(3) == 0 ? near(31) : 4 + upTo(12);
                same("wall(" + length + ")", () -> x.wall(length), () -> y.wall(length));
            } else if (kind < 8) {
                int k = near(4);
                same("outlet(" + w + "," + m + "," + k + ")", () -> x.outlet(w, m, k), () -> y.outlet(w, m, k));
            } else if (kind < 12) {
                int goods = near(random.nextInt(4) == 0 ? 5 : 1);
                int frontage = random.nextInt(4) == 0 ? near(9) : 1 + upTo(3);
                int k = near(3);
                same("dealer(" + goods + "," + frontage + "," + k + ")", () -> x.dealer(goods, frontage, k),
                        () -> y.dealer(goods, frontage, k));
            } else if (kind < 24) {
                same("place(" + a + "," + w + "," + m + ")", () -> x.place(a, w, m), () -> y.place(a, w, m));
            } else if (kind < 26) {
                same("leave(" + a + ")", () -> x.leave(a), () -> y.leave(a));
            } else if (kind < 32) {
                same("swap(" + a + "," + b + ")", () -> x.swap(a, b), () -> y.swap(a, b));
            } else if (kind < 34) {
                int n = random.nextInt(4) == 0 ? near(60) : 1 + upTo(3);
                same("days(" + n + ")", () -> x.days(n), () -> y.days(n));
            } else if (kind < 37) {
                int what = near(5);
                int v = near(random.nextInt(3) == 0 ? 51 : 9);
                same("set(" + what + "," + v + ")", () -> x.set(what, v), () -> y.set(what, v));
            } else {
                same("undo()", x::undo, y::undo);
            }
        }

        void look() {
            int a = someDealer();
            int b = someDealer();
            int w = someWall();
            int m = someMetre();
            int what = near(11);
            switch (random.nextInt(14)) {
                case 0: same("about(" + what + ")", () -> x.about(what), () -> y.about(what)); break;
                case 1: same("about(8)", () -> x.about(8), () -> y.about(8)); break;
                case 2: {
                    int k = near(5);
                    same("wallOf(" + w + "," + k + ")", () -> x.wallOf(w, k), () -> y.wallOf(w, k));
                    break;
                }
                case 3: {
                    int k = near(2);
                    same("metreOf(" + w + "," + m + "," + k + ")", () -> x.metreOf(w, m, k), () -> y.metreOf(w, m, k));
                    break;
                }
                case 4:
                case 5:
                    same("dealerOf(" + a + "," + what + ")", () -> x.dealerOf(a, what), () -> y.dealerOf(a, what));
                    break;
                case 6: {
                    int k = near(2);
                    same("plugOf(" + a + "," + k + ")", () -> x.plugOf(a, k), () -> y.plugOf(a, k));
                    break;
                }
                case 7: {
                    int k = near(5);
                    same("setting(" + k + ")", () -> x.setting(k), () -> y.setting(k));
                    break;
                }
                case 8: {
                    int k = near(1);
                    same("free(" + w + "," + k + ")", () -> x.free(w, k), () -> y.free(w, k));
                    break;
                }
                case 9:
                    same("rentIf(" + a + "," + w + "," + m + ")", () -> x.rentIf(a, w, m), () -> y.rentIf(a, w, m));
                    break;
                case 10: {
                    int k = near(1);
                    same("cheapest(" + a + "," + k + ")", () -> x.cheapest(a, k), () -> y.cheapest(a, k));
                    break;
                }
                case 11: {
                    int k = near(1);
                    same("bestSwap(" + k + ")", () -> x.bestSwap(k), () -> y.bestSwap(k));
                    break;
                }
                case 12: same("why(" + a + "," + b + ")", () -> x.why(a, b), () -> y.why(a, b)); break;
                default: same("about(" + (what + 2) + ")", () -> x.about(what + 2), () -> y.about(what + 2)); break;
            }
        }

        void runOrSave() {
            int slot = near(1);
            switch (random.nextInt(5)) {
                case 0:
                case 1: {
                    int n = near(2) + 1;
                    long script = someScript(n);
                    same("runScript(" + n + "," + script + ")", () -> x.runScript(n, script),
                            () -> y.runScript(n, script));
                    break;
                }
                case 2: {
                    int m = near(60);
                    long seed = random.nextLong();
                    same("simulate(" + seed + "," + m + ")", () -> x.simulate(seed, m), () -> y.simulate(seed, m));
                    break;
                }
                case 3: same("save(" + slot + ")", () -> x.save(slot), () -> y.save(slot)); break;
                default: same("restore(" + slot + ")", () -> x.restore(slot), () -> y.restore(slot)); break;
            }
        }

        long someScript(int n) {
            long script = random.nextInt(30) == 0 ? random.nextLong() : 0;
            int groups = random.nextInt(30) == 0 ? 3 : n;
            for (int i = 0; i < groups && i < 3; i++) {
                int d = upTo(Math.max(y.dealers.size() - 1, 0));
                int e = upTo(Math.max(y.dealers.size() - 1, 0));
                int w = upTo(Math.max(y.plugs.size() - 1, 0));
                int[] any = {random.nextInt(100000), 10000 + 1000 * d + 100 * w + upTo(11), 20000 + 1000 * d + 100 * e,
                    30000 + 1000 * d, 40000 + upTo(61), 50000 + 1000 * upTo(5) + upTo(12),
                    60000 + 1000 * w + 10 * upTo(11) + upTo(4), 70000 + 1000 * d + upTo(40), 80000 + 1000 * d + upTo(2),
                    90000 + 1000 * w + upTo(11)};
                script = script * 100000 + any[random.nextInt(any.length)];
            }
            return script;
        }

        String digits(int n) {
            StringBuilder digits = new StringBuilder();
            for (int i = 0; i < n; i++) {
                digits.append((char) ('0' + random.nextInt(random.nextBoolean() ? 2 : 10)));
            }
            return digits.toString();
        }

        void write() {
            same("clearText()", x::clearText, y::clearText);
            StringBuilder text = new StringBuilder("Aw12w1" + digits(1));
            int size = upTo(60);
            while (text.length() < size) {
                char letter = "wodplsnepd".charAt(random.nextInt(10));
                String command = letter + digits(letter == 'l' ? 1 : "swn".indexOf(letter) >= 0 ? 2
                        : "de".indexOf(letter) >= 0 ? 3 : 4);
                Matcher matcher = Model.ONE.matcher(command);
                if (matcher.matches() || random.nextInt(100) == 0) {
                    text.append(command);
                }
            }
            if (random.nextInt(4) == 0) {
                text.setLength(upTo(text.length()));
            }
            if (random.nextInt(6) == 0 && text.length() > 0) {
                text.setCharAt(upTo(text.length() - 1), (char) (random.nextBoolean() ? upTo(255) : '0' + upTo(9)));
            }
            for (int i = 0; i < text.length(); i++) {
                int c = text.charAt(i);
                same("append(" + c + ")", () -> x.append(c), () -> y.append(c));
            }
            same("errorPosition()", x::errorPosition, y::errorPosition);
            same("load()", x::load, y::load);
        }

        /** Fills the fair with dealers side by side, so that neighbours, lacks and tight swaps are many. */
        void crowd() {
            while (y.plugs.size() < 2 && !over()) {
                int length = 8 + upTo(6);
                same("wall(" + length + ")", () -> x.wall(length), () -> y.wall(length));
            }
            for (int i = 0; i < 8 && !over(); i++) {
                int w = upTo(y.plugs.size() - 1);
                int m = upTo(y.plugs.get(w).length - 1);
                int k = 1 + upTo(2);
                same("outlet(" + w + "," + m + "," + k + ")", () -> x.outlet(w, m, k), () -> y.outlet(w, m, k));
            }
            while (y.dealers.size() < 8 && !over()) {
                int goods = upTo(1);
                int frontage = 1 + upTo(2);
                int k = upTo(3);
                same("dealer(" + goods + "," + frontage + "," + k + ")", () -> x.dealer(goods, frontage, k),
                        () -> y.dealer(goods, frontage, k));
            }
            for (int i = 0; i < y.dealers.size() && !over(); i++) {
                int d = i;
                int w = upTo(y.plugs.size() - 1);
                int m = y.wallOf(w, 5);
                same("place(" + d + "," + w + "," + m + ")", () -> x.place(d, w, m), () -> y.place(d, w, m));
            }
        }

        void go() {
            if (number % 2 == 0) {
                write();
            }
            if (number % 4 != 0) {
                crowd();
            }
            for (int i = 0; i < CALLS; i++) {
                int kind = random.nextInt(200);
                if (kind == 0) {
                    write();
                } else if (kind == 1) {
                    crowd();
                } else if (kind < 90) {
                    act();
                } else if (kind < 180) {
                    look();
                } else {
                    runOrSave();
                }
            }
        }
    }

    public static void main(String[] args) {
        for (int number = 1; number <= RUNS; number++) {
            Run run = new Run(number);
            run.go();
            Due.is("run " + number + " differs", run.wrong ? 1 : 0, 0);
            Due.is("calls of run " + number, run.wrong ? CALLS : run.calls, CALLS);
        }
        Due.end();
    }
}
