import java.lang.reflect.InvocationTargetException;
import java.lang.reflect.Method;
import java.util.ArrayDeque;
import java.util.ArrayList;
import java.util.Arrays;
import java.util.Deque;
import java.util.HashMap;
import java.util.List;
import java.util.Map;
import java.util.NoSuchElementException;
import java.util.Random;
import java.util.regex.Matcher;
import java.util.regex.Pattern;

/** Compares random runs of calls with a second, plain model of the document, call by call. */
public final class ModelTest {
    private static final int RUNS = 3000;
    private static final int CALLS = 500;
    private static final int MOST_FAILURES = 5;

    /**
     * The methods with the kinds of their arguments and how often they are called: g giant, l landing, s staircase,
     * t steps, d days of a lease, f days to come, w what of a number, k kind of an order, x depth, i index,
     * c character, b boolean.
     */
    private static final String[] METHODS = {
        "build llt 30", "tear s 3", "halve s 6", "lease gsd 10", "climb gs 40", "levy gs 14", "take l 30",
        "free gl 8", "day - 16", "giantOf gw 6", "landingOf lw 6", "stairOf sw 8", "between ll 4", "breaths gs 3",
        "steps ll 4", "stepsAgain ll 4", "way gl 4", "wayAgain gl 4", "first gl 6", "reach g 4", "dustIn sf 3",
        "dustAgain sf 3", "rentsIn f 5", "levyOf gs 3", "bestLevy g 4", "canTake l 3", "takable - 3", "turn - 2",
        "ranked ki 6", "isTold - 2", "append c 2", "run - 1", "faultPosition - 1", "reason xb 20", "tellGiant g 2",
        "tellStair s 3", "tellLandings - 2", "character i 8", "account w 14", "meanSteps - 2", "leasedShare - 2",
        "undo - 5", "save - 2", "restore - 1",
    };

    private static final Map<String, Method> FACE = methodsOf(GiantStairs.class);
    private static final Map<String, Method> MODEL = methodsOf(Model.class);
    private static int failures = 0;

    public static void main(String[] args) throws Exception {
        for (int seed = 0; seed < RUNS && failures < MOST_FAILURES; seed++) {
            new Run(seed).go();
        }
        System.out.println(failures == 0 ? "all runs are as the model's" : failures + " runs are not as the model's");
        if (failures != 0) {
            System.exit(1);
        }
    }

    private static Map<String, Method> methodsOf(Class<?> type) {
        Map<String, Method> methods = new HashMap<>();
        for (Method method : type.getDeclaredMethods()) {
            if (!method.isSynthetic()) {
                methods.put(method.getName(), method);
            }
        }
        return methods;
    }

    private static String answer(Map<String, Method> methods, Object target, String name, Object[] args)
            throws Exception {
        try {
            return String.valueOf(methods.get(name).invoke(target, args));
        } catch (InvocationTargetException e) {
            return "throws." + e.getCause().getClass().getSimpleName();
        }
    }

    private static final class Run {
        private final Random random;
        private final int seed;
        private final GiantStairs program = new GiantStairs();
        private final Model model = new Model();
        private final List<String> told = new ArrayList<>();
        private final List<String> choices = new ArrayList<>();
        private boolean isWrong = false;

        Run(int seed) {
            this.seed = seed;
            random = new Random(seed);
            for (String method : METHODS) {
                String[] parts = method.split(" ");
                for (int i = 0; i < Integer.parseInt(parts[2]); i++) {
                    choices.add(parts[0] + " " + parts[1].replace("-", ""));
                }
            }
        }

        void go() throws Exception {
            while (told.size() < CALLS && !isWrong) {
                if (random.nextInt(60) == 0 && told.size() < CALLS - 70) {
                    callText();
                } else {
                    callAny();
                }
            }
        }

        private void callAny() throws Exception {
            String[] choice = choices.get(random.nextInt(choices.size())).split(" ", 2);
            Object[] args = new Object[choice[1].length()];
            for (int i = 0; i < args.length; i++) {
                args[i] = argument(choice[1].charAt(i));
            }
            call(choice[0], args);
        }

        private void callText() throws Exception {
            for (char sign : text().toCharArray()) {
                call("append", sign);
            }
            call("run");
            call("faultPosition");
            for (int depth = 0; depth < 2; depth++) {
                call("reason", depth, false);
                call("reason", depth, true);
            }
        }

        private String text() {
            StringBuilder text = new StringBuilder();
            int orders = random.nextInt(7);
            for (int i = 0; i <= orders; i++) {
                text.append(i == 0 ? "" : ";").append(order());
            }
            if (random.nextInt(3) == 0) {
                int at = random.nextInt(text.length());
                text.setCharAt(at, " ;0123456789abcdefghiklmrtuvy".charAt(random.nextInt(29)));
            }
            return random.nextInt(8) == 0 ? text.substring(0, random.nextInt(text.length())) : text.toString();
        }

        private String order() {
            int giant = random.nextInt(2);
            int landing = random.nextInt(8);
            int stair = random.nextInt(4);
            switch (random.nextInt(11)) {
                case 0: return "tear " + stair;
                case 1: return "halve " + stair;
                case 2: return "lease " + giant + " " + stair + " " + random.nextInt(10);
                case 3: return "climb " + giant + " " + stair;
                case 4: return "levy " + giant + " " + stair;
                case 5: return "take " + landing;
                case 6: return "free " + giant + " " + landing;
                case 7:
                case 8: return "day";
                default: return "build " + landing + random.nextInt(9) + " " + random.nextInt(45);
            }
        }

        private Object argument(char kind) {
            if (kind == 'b') {
                return random.nextBoolean();
            }
            if (kind == 'c') {
                return (char) (random.nextInt(10) == 0 ? random.nextInt(300) : 31 + random.nextInt(97));
            }
            if (random.nextInt(60) == 0) {
                int[] odd = {Integer.MIN_VALUE, Integer.MAX_VALUE, random.nextInt(), -1};
                return odd[random.nextInt(odd.length)];
            }
            switch (kind) {
                case 'g': return random.nextInt(25) == 0 ? 2 : random.nextInt(2);
                case 'l': return random.nextInt(25) == 0 ? 8 : random.nextInt(8);
                case 's': return random.nextInt(random.nextInt(3) == 0 ? 11 : model.now.stairs.size() + 1);
                case 't': return random.nextInt(4) == 0 ? random.nextInt(43) : 1 + random.nextInt(12);
                case 'd': return random.nextInt(11);
                case 'f': return random.nextInt(43) - 1;
                case 'w': return random.nextInt(16) - 1;
                case 'k': return random.nextInt(5);
                case 'x': return random.nextInt(3);
                default: return random.nextInt(13) - 1;
            }
        }

        private void call(String name, Object... args) throws Exception {
            String got = answer(FACE, program, name, args);
            String due = answer(MODEL, model, name, args);
            told.add(name + Arrays.toString(args) + " " + got);
            if (!got.equals(due) && !isWrong) {
                isWrong = true;
                failures++;
                System.out.println("run " + seed + ", the model answers " + due + " to the last of " + told);
            }
        }
    }

    /** What goes back when a change is undone. A staircase is {lower, upper, steps, dust, halved, leaser, days}. */
    private static final class State {
        int[] coins = {30, 30};
        int[] at = {0, 1};
        int[] breaths = {0, 0};
        int[] rents = {0, 0};
        int[] tolls = {0, 0};
        int[] owner = {0, 1, 2, 2, 2, 2, 2, 2};
        List<int[]> stairs = new ArrayList<>();
        /** The day, the coins of the treaty, and what was levied, taken and halved so far. */
        int[] sums = new int[5];
        int turn = 0;

        State copy() {
            State copy = new State();
            copy.coins = coins.clone();
            copy.at = at.clone();
            copy.breaths = breaths.clone();
            copy.rents = rents.clone();
            copy.tolls = tolls.clone();
            copy.owner = owner.clone();
            for (int[] stair : stairs) {
                copy.stairs.add(stair.clone());
            }
            copy.sums = sums.clone();
            copy.turn = turn;
            return copy;
        }
    }

    /** The document, told once more, with the library and without a thought of what it makes. */
    public static final class Model {
        private static final String ORDER = "(build [0-9][0-9] [0-9][0-9]?|tear [0-9]|halve [0-9]"
            + "|lease [0-9] [0-9] [0-9]|climb [0-9] [0-9]|levy [0-9] [0-9]|take [0-9]|free [0-9] [0-9]|day)";
        private static final Pattern TEXT = Pattern.compile(ORDER + "(;" + ORDER + ")*");

        State now = new State();
        private State saved = null;
        private final Deque<State> history = new ArrayDeque<>();
        private String input = "";
        private String line = "";
        private int fault = -1;
        private final List<int[]> reasons = new ArrayList<>();

        private void refuse(boolean isRefused, int number, int detail) {
            if (isRefused) {
                reasons.clear();
                reasons.add(new int[] {number, detail});
                throw new UnsupportedOperationException();
            }
        }

        private static boolean in(int number, int least, int behind) {
            return number >= least && number < behind;
        }

        private static void bound(boolean isThere) {
            if (!isThere) {
                throw new IndexOutOfBoundsException();
            }
        }

        private static void valid(boolean isValid) {
            if (!isValid) {
                throw new IllegalArgumentException();
            }
        }

        private boolean isStair(int stair) {
            return in(stair, 0, now.stairs.size());
        }

        private static int whole(int per, int of) {
            return (int) Math.floor(of / (double) per);
        }

        private void change() {
            history.push(now.copy());
            if (history.size() > 8) {
                history.removeLast();
            }
        }

        private int joining(int one, int other) {
            for (int i = 0; i < now.stairs.size(); i++) {
                if (now.stairs.get(i)[0] == Math.min(one, other) && now.stairs.get(i)[1] == Math.max(one, other)) {
                    return i;
                }
            }
            return -1;
        }

        private int rent(int stair) {
            return 1 + whole(8, now.stairs.get(stair)[2]);
        }

        private int standing(int landing) {
            return now.at[0] == landing ? 0 : now.at[1] == landing ? 1 : -1;
        }

        private int owned(int owner) {
            return (int) Arrays.stream(now.owner).filter(o -> o == owner).count();
        }

        private int sum(int field) {
            return now.stairs.stream().mapToInt(s -> s[field]).sum();
        }

        private int leases(int giant) {
            return (int) now.stairs.stream().filter(s -> s[5] == giant).count();
        }

        public int build(int one, int other, int steps) {
            refuse(!in(one, 0, 8), 2, one);
            refuse(!in(other, 0, 8), 2, other);
            refuse(!in(steps, 1, 41), 3, steps);
            refuse(one == other, 4, one);
            refuse(joining(one, other) >= 0, 5, joining(one, other));
            refuse(now.stairs.size() == 10, 1, 10);
            change();
            now.stairs.add(new int[] {Math.min(one, other), Math.max(one, other), steps, 0, 0, -1, 0});
            return now.stairs.size() - 1;
        }

        public int tear(int stair) {
            refuse(!isStair(stair), 2, stair);
            change();
            now.stairs.remove(stair);
            return now.stairs.size();
        }

        public int halve(int stair) {
            refuse(!isStair(stair), 2, stair);
            int[] s = now.stairs.get(stair);
            refuse(s[4] == 3 || s[2] == 1, 6, s[2]);
            change();
            s[2] -= whole(2, s[2]);
            s[4]++;
            now.sums[4]++;
            return s[2];
        }

        public int lease(int giant, int stair, int days) {
            refuse(!in(giant, 0, 2), 2, giant);
            refuse(!isStair(stair), 2, stair);
            refuse(!in(days, 1, 10), 3, days);
            int[] s = now.stairs.get(stair);
            refuse(s[5] >= 0, 7, s[6]);
            change();
            s[5] = giant;
            s[6] = days;
            return rent(stair);
        }

        public int climb(int giant, int stair) {
            refuse(!in(giant, 0, 2), 2, giant);
            refuse(!isStair(stair), 2, stair);
            int[] s = now.stairs.get(stair);
            int from = now.at[giant];
            refuse(s[0] != from && s[1] != from, 8, from);
            int to = s[0] + s[1] - from;
            refuse(now.owner[to] == 2, 9, to);
            change();
            int breaths = breaths(giant, stair);
            now.at[giant] = to;
            now.breaths[giant] += breaths;
            if (now.owner[to] != giant && now.coins[giant] > 0) {
                now.coins[giant]--;
                now.coins[now.owner[to]]++;
                now.tolls[now.owner[to]]++;
            }
            s[3] -= whole(2, s[3]);
            return breaths;
        }

        public int levy(int giant, int stair) {
            refuse(!in(giant, 0, 2), 2, giant);
            refuse(!isStair(stair), 2, stair);
            int[] s = now.stairs.get(stair);
            refuse(now.owner[s[0]] != giant && now.owner[s[1]] != giant, 10, stair);
            refuse(s[3] == 0, 11, s[2]);
            change();
            int coins = Math.min(whole(4, s[3]), now.coins[giant ^ 1]);
            now.coins[giant] += coins;
            now.coins[giant ^ 1] -= coins;
            now.sums[2] += coins;
            s[3] = 0;
            return coins;
        }

        public int take(int landing) {
            refuse(!in(landing, 0, 8), 2, landing);
            int own = now.turn;
            refuse(now.owner[landing] == own, 13, own);
            refuse(standing(landing) >= 0, 12, standing(landing));
            boolean isNext = now.stairs.stream().anyMatch(s -> s[0] == landing && now.owner[s[1]] == own
                || s[1] == landing && now.owner[s[0]] == own);
            refuse(!isNext, 14, owned(own));
            boolean isOthers = now.owner[landing] != 2;
            refuse(now.coins[own] < (isOthers ? 10 : 5), 15, now.coins[own]);
            change();
            now.coins[own] -= 5;
            now.sums[1] += 5;
            if (isOthers) {
                now.coins[own] -= 5;
                now.coins[own ^ 1] += 5;
            }
            now.owner[landing] = own;
            now.sums[3]++;
            return now.coins[own];
        }

        public int free(int giant, int landing) {
            refuse(!in(giant, 0, 2), 2, giant);
            refuse(!in(landing, 0, 8), 2, landing);
            refuse(now.owner[landing] != giant, 13, now.owner[landing]);
            refuse(standing(landing) >= 0, 12, standing(landing));
            change();
            now.owner[landing] = 2;
            return owned(giant);
        }

        public int day() {
            change();
            return passDay();
        }

        private int passDay() {
            int given = 0;
            for (int i = 0; i < now.stairs.size(); i++) {
                int[] s = now.stairs.get(i);
                s[3] = Math.min(20, s[3] + 1 + whole(5, s[2]));
                if (s[5] >= 0 && now.coins[s[5]] < rent(i)) {
                    s[5] = -1;
                    s[6] = 0;
                }
                if (s[5] >= 0) {
                    given += rent(i);
                    now.coins[s[5]] -= rent(i);
                    now.rents[s[5]] += rent(i);
                    now.sums[1] += rent(i);
                    s[6]--;
                    s[5] = s[6] == 0 ? -1 : s[5];
                }
            }
            now.sums[0]++;
            now.turn ^= 1;
            return given;
        }

        public int giantOf(int giant, int what) {
            bound(in(giant, 0, 2));
            valid(in(what, 0, 7));
            return new int[] {now.coins[giant], now.at[giant], owned(giant), now.breaths[giant], leases(giant),
                now.rents[giant], now.tolls[giant]}[what];
        }

        public int landingOf(int landing, int what) {
            bound(in(landing, 0, 8));
            valid(in(what, 0, 4));
            int joined = 0;
            for (int other = 0; other < 8; other++) {
                joined += joining(landing, other) >= 0 ? 1 << other : 0;
            }
            return new int[] {now.owner[landing], Integer.bitCount(joined), standing(landing), joined}[what];
        }

        public int stairOf(int stair, int what) {
            bound(isStair(stair));
            valid(in(what, 0, 8));
            return what == 7 ? rent(stair) : now.stairs.get(stair)[what];
        }

        public int between(int one, int other) {
            bound(in(one, 0, 8) && in(other, 0, 8));
            return found(joining(one, other));
        }

        private static int found(int number) {
            if (number < 0) {
                throw new NoSuchElementException();
            }
            return number;
        }

        public int breaths(int giant, int stair) {
            bound(in(giant, 0, 2) && isStair(stair));
            int[] s = now.stairs.get(stair);
            return s[5] == giant ? s[2] : s[2] * 2;
        }

        /** The cheapest of all ways that come to no landing of the set twice, or -1. */
        private int cheapest(int giant, int from, int to, int seen) {
            if (from == to) {
                return 0;
            }
            int best = -1;
            for (int i = 0; i < now.stairs.size(); i++) {
                int[] s = now.stairs.get(i);
                int next = s[0] == from ? s[1] : s[1] == from ? s[0] : -1;
                if (next < 0 || (seen >> next & 1) == 1 || giant >= 0 && now.owner[next] == 2) {
                    continue;
                }
                int rest = cheapest(giant, next, to, seen | 1 << next);
                int cost = giant >= 0 ? breaths(giant, i) : s[2];
                if (rest >= 0 && (best < 0 || cost + rest < best)) {
                    best = cost + rest;
                }
            }
            return best;
        }

        public int steps(int one, int other) {
            bound(in(one, 0, 8) && in(other, 0, 8));
            return found(cheapest(-1, one, other, 1 << one));
        }

        public int stepsAgain(int one, int other) {
            return steps(one, other);
        }

        public int way(int giant, int landing) {
            bound(in(giant, 0, 2) && in(landing, 0, 8));
            return found(cheapest(giant, now.at[giant], landing, 1 << now.at[giant]));
        }

        public int wayAgain(int giant, int landing) {
            return way(giant, landing);
        }

        public int first(int giant, int landing) {
            int best = way(giant, landing);
            int start = now.at[giant];
            for (int i = 0; i < now.stairs.size() && start != landing; i++) {
                int[] s = now.stairs.get(i);
                int next = s[0] == start ? s[1] : s[1] == start ? s[0] : -1;
                if (next < 0 || now.owner[next] == 2) {
                    continue;
                }
                int rest = cheapest(giant, next, landing, 1 << next | 1 << start);
                if (rest >= 0 && rest + breaths(giant, i) == best) {
                    return i;
                }
            }
            throw new NoSuchElementException();
        }

        public int reach(int giant) {
            bound(in(giant, 0, 2));
            int reached = 0;
            for (int landing = 0; landing < 8; landing++) {
                reached += cheapest(giant, now.at[giant], landing, 1 << now.at[giant]) >= 0 ? 1 << landing : 0;
            }
            return reached;
        }

        public int dustIn(int stair, int days) {
            bound(isStair(stair));
            valid(in(days, 0, 41));
            State before = now.copy();
            for (int i = 0; i < days; i++) {
                passDay();
            }
            int dust = now.stairs.get(stair)[3];
            now = before;
            return dust;
        }

        public int dustAgain(int stair, int days) {
            return dustIn(stair, days);
        }

        public int rentsIn(int days) {
            valid(in(days, 0, 41));
            State before = now.copy();
            int rents = 0;
            for (int i = 0; i < days; i++) {
                rents += passDay();
            }
            now = before;
            return rents;
        }

        public int levyOf(int giant, int stair) {
            bound(in(giant, 0, 2) && isStair(stair));
            int[] s = now.stairs.get(stair);
            boolean isOwn = now.owner[s[0]] == giant || now.owner[s[1]] == giant;
            return isOwn ? Math.min(whole(4, s[3]), now.coins[giant ^ 1]) : 0;
        }

        public int bestLevy(int giant) {
            bound(in(giant, 0, 2));
            for (int coins = 5; coins > 0; coins--) {
                for (int i = 0; i < now.stairs.size(); i++) {
                    if (levyOf(giant, i) == coins) {
                        return i;
                    }
                }
            }
            throw new NoSuchElementException();
        }

        public boolean canTake(int landing) {
            bound(in(landing, 0, 8));
            int own = now.turn;
            boolean isNext = false;
            for (int other = 0; other < 8; other++) {
                isNext |= now.owner[other] == own && joining(landing, other) >= 0;
            }
            return isNext && now.owner[landing] != own && standing(landing) < 0
                && now.coins[own] >= (now.owner[landing] == 2 ? 5 : 10);
        }

        public int takable() {
            int set = 0;
            for (int landing = 0; landing < 8; landing++) {
                set += canTake(landing) ? 1 << landing : 0;
            }
            return set;
        }

        public int turn() {
            return now.turn;
        }

        public int ranked(int kind, int place) {
            valid(in(kind, 0, 4));
            List<Integer> order = new ArrayList<>();
            for (int i = 0; i < now.stairs.size(); i++) {
                order.add(i);
            }
            int[] what = {2, 3, 6, 7};
            order.sort((a, b) -> stairOf(b, what[kind]) - stairOf(a, what[kind]));
            return found(in(place, 0, order.size()) ? order.get(place) : -1);
        }

        public boolean isTold() {
            return true;
        }

        public int append(char character) {
            valid(in(character, 32, 127));
            if (input.length() == 60) {
                throw new IllegalStateException();
            }
            input += character;
            return input.length();
        }

        private static int faultOf(String text) {
            for (int end = 1; end <= text.length(); end++) {
                Matcher matcher = TEXT.matcher(text.substring(0, end));
                if (!matcher.matches() && !matcher.hitEnd()) {
                    return end - 1;
                }
            }
            return TEXT.matcher(text).matches() ? -1 : text.length();
        }

        public int run() {
            String text = input;
            input = "";
            fault = faultOf(text);
            valid(fault < 0);
            State before = now.copy();
            List<State> kept = new ArrayList<>(history);
            String[] orders = text.split(";");
            for (int i = 0; i < orders.length; i++) {
                try {
                    obey(orders[i]);
                } catch (UnsupportedOperationException e) {
                    reasons.add(0, new int[] {16, i});
                    now = before;
                    history.clear();
                    history.addAll(kept);
                    throw e;
                }
            }
            history.clear();
            history.addAll(kept);
            State after = now;
            now = before;
            change();
            now = after;
            return orders.length;
        }

        private void obey(String order) {
            String[] words = order.split(" ");
            int[] n = new int[4];
            for (int i = 1; i < words.length; i++) {
                n[i] = Integer.parseInt(words[i]);
            }
            switch (words[0]) {
                case "build": build(n[1] / 10, n[1] % 10, n[2]); break;
                case "tear": tear(n[1]); break;
                case "halve": halve(n[1]); break;
                case "lease": lease(n[1], n[2], n[3]); break;
                case "climb": climb(n[1], n[2]); break;
                case "levy": levy(n[1], n[2]); break;
                case "take": take(n[1]); break;
                case "free": free(n[1], n[2]); break;
                default: day();
            }
        }

        public int faultPosition() {
            return fault;
        }

        public int reason(int depth, boolean isDetail) {
            valid(in(depth, 0, 2));
            if (depth >= reasons.size()) {
                throw new NoSuchElementException();
            }
            return reasons.get(depth)[isDetail ? 1 : 0];
        }

        public int tellGiant(int giant) {
            bound(in(giant, 0, 2));
            line = giant + "@" + now.at[giant] + "$" + now.coins[giant] + (now.turn == giant ? "!" : "");
            return line.length();
        }

        public int tellStair(int stair) {
            bound(isStair(stair));
            int[] s = now.stairs.get(stair);
            line = stair + ":" + s[0] + s[1] + "^" + s[2] + "~" + s[3] + (s[5] < 0 ? "" : "=" + s[5] + "/" + s[6]);
            return line.length();
        }

        public int tellLandings() {
            line = Arrays.toString(now.owner).replaceAll("[^0-9]", "").replace('2', '.');
            return line.length();
        }

        public char character(int index) {
            bound(in(index, 0, line.length()));
            return line.charAt(index);
        }

        public int account(int what) {
            valid(in(what, 0, 14));
            return new int[] {now.stairs.size(), owned(2), now.sums[0], now.sums[1], leases(0) + leases(1), sum(3),
                now.rents[0] + now.rents[1], now.sums[2], now.tolls[0] + now.tolls[1], now.breaths[0] + now.breaths[1],
                now.sums[3], now.sums[4], input.length(), history.size()}[what];
        }

        private void any() {
            if (now.stairs.isEmpty()) {
                throw new ArithmeticException();
            }
        }

        public double meanSteps() {
            any();
            return (double) sum(2) / now.stairs.size();
        }

        public float leasedShare() {
            any();
            return (float) account(4) / now.stairs.size();
        }

        public int undo() {
            if (history.isEmpty()) {
                throw new IllegalStateException();
            }
            now = history.pop();
            return history.size();
        }

        public int save() {
            saved = now.copy();
            return now.stairs.size();
        }

        public int restore() {
            if (saved == null) {
                throw new IllegalStateException();
            }
            now = saved.copy();
            history.clear();
            return now.stairs.size();
        }
    }
}
