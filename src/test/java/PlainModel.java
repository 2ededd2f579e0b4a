import java.math.BigInteger;
import java.util.ArrayDeque;
import java.util.ArrayList;
import java.util.Arrays;
import java.util.Deque;
import java.util.HashMap;
import java.util.List;
import java.util.Map;
import java.util.TreeMap;

/**
 * The document once more, as literally as can be and with no thought of speed: by texts, by stepping breath
 * by breath, by listing all worlds and all outcomes. It shares nothing with the class that it is held against.
 */
final class PlainModel {
    private static final int NONE = -6, UNKNOWN = -1, OUTSIDE = -2, STATE = -3, FULL = -4, NO = -5;
    private static final long LOST = -1000000000000000000L;

    private static final class Monk {
        int count;
        int pace;
        boolean awake = true;

        Monk(int count, int pace) {
            this.count = count;
            this.pace = pace;
        }

        Monk copy() {
            Monk other = new Monk(count, pace);
            other.awake = awake;
            return other;
        }
    }

    private record Sight(int monk, int breaths, boolean bowed) {
    }

    private record Kept(TreeMap<Integer, Monk> monks, int house, int sharp, List<Sight> sights) {
    }

    private record World(int monk, int skipped) {
    }

    private TreeMap<Integer, Monk> monks = new TreeMap<>();
    private int house = 1000000;
    private int sharp = 9;
    private String pad = "";
    private List<Sight> sights = new ArrayList<>();
    private final Map<Integer, Kept> images = new HashMap<>();

    private static TreeMap<Integer, Monk> copy(TreeMap<Integer, Monk> from) {
        TreeMap<Integer, Monk> to = new TreeMap<>();
        from.forEach((monk, state) -> to.put(monk, state.copy()));
        return to;
    }

    private static List<Monk> awake(TreeMap<Integer, Monk> of) {
        return of.values().stream().filter(monk -> monk.awake).toList();
    }

    int monk(int monk, int count, int pace) {
        if (monk < 0 || monk > 7) {
            return UNKNOWN;
        }
        if (count < 0 || count > 1000000 || count > house || pace < 1 || pace > 9) {
            return OUTSIDE;
        }
        monks.put(monk, new Monk(count, pace));
        return monks.size();
    }

    int leave(int monk) {
        return monks.remove(monk) == null ? UNKNOWN : monks.size();
    }

    int set(int which, int v) {
        if (which == 0 && v >= 1 && v <= 1000000) {
            if (monks.values().stream().anyMatch(monk -> monk.count > v)) {
                return STATE;
            }
            int was = house;
            house = v;
            return was;
        }
        if (which == 1 && v >= 0 && v <= 99) {
            int was = sharp;
            sharp = v;
            return was;
        }
        return OUTSIDE;
    }

    int say(int sign) {
        if (sign < 33 || sign > 126) {
            return OUTSIDE;
        }
        if (pad.length() == 60) {
            return FULL;
        }
        pad = pad + (char) sign;
        return pad.length();
    }

    int wipe() {
        int were = pad.length();
        pad = "";
        return were;
    }

    int fault() {
        if (pad.matches("([.:!*]|[A-H][A-Hwke])*")) {
            return NONE;
        }
        int longest = 0;
        for (int length = 0; length <= pad.length(); length++) {
            if (pad.substring(0, length).matches("([.:!*]|[A-H][A-Hwke])*[A-H]?")) {
                longest = length;
            } else {
                break;
            }
        }
        return longest;
    }

    private List<String> acts() {
        List<String> acts = new ArrayList<>();
        for (int i = 0; i < pad.length();) {
            int length = Character.isLetter(pad.charAt(i)) ? 2 : 1;
            acts.add(pad.substring(i, i + length));
            i += length;
        }
        return acts;
    }

    private static int reason(TreeMap<Integer, Monk> in, String act) {
        if (act.length() == 1) {
            return awake(in).isEmpty() ? 5 : 0;
        }
        Monk he = in.get(act.charAt(0) - 'A');
        char second = act.charAt(1);
        boolean two = second >= 'A' && second <= 'H';
        Monk other = two ? in.get(second - 'A') : he;
        if (he == null || other == null) {
            return 1;
        }
        if (two && he == other) {
            return 2;
        }
        if (second != 'w' && (!he.awake || !other.awake)) {
            return 3;
        }
        return second == 'w' && he.awake ? 4 : 0;
    }

    private void act(TreeMap<Integer, Monk> in, String act) {
        switch (act.charAt(act.length() - 1)) {
            case '.' -> awake(in).forEach(monk -> monk.count = Math.max(0, monk.count - monk.pace));
            case ':' -> {
                for (int i = 0; i < 10; i++) {
                    act(in, ".");
                }
            }
            case '!' -> awake(in).forEach(monk -> monk.count = Math.min(house, monk.count + 1));
            case '*' -> {
                Monk least = awake(in).get(0);
                for (Monk monk : awake(in)) {
                    least = monk.count < least.count ? monk : least;
                }
                least.count = house;
            }
            case 'w' -> in.get(act.charAt(0) - 'A').awake = true;
            case 'k' -> {
                Monk monk = in.get(act.charAt(0) - 'A');
                monk.count = Math.min(house, monk.count + 3);
            }
            case 'e' -> in.get(act.charAt(0) - 'A').count = mode(awake(in).stream().map(monk -> monk.count).toList());
            default -> {
                Monk he = in.get(act.charAt(0) - 'A');
                Monk other = in.get(act.charAt(1) - 'A');
                he.awake = false;
                other.count = (he.count + other.count) / 2;
            }
        }
    }

    private static int mode(List<Integer> numbers) {
        TreeMap<Integer, Integer> many = new TreeMap<>();
        numbers.forEach(number -> many.merge(number, 1, Integer::sum));
        int best = many.firstKey();
        for (Map.Entry<Integer, Integer> entry : many.entrySet()) {
            best = entry.getValue() > many.get(best) ? entry.getKey() : best;
        }
        return best;
    }

    int judge(int what) {
        if (what != 0 && what != 1) {
            return OUTSIDE;
        }
        if (fault() != NONE) {
            return NO;
        }
        TreeMap<Integer, Monk> then = copy(monks);
        List<String> acts = acts();
        for (int i = 0; i < acts.size(); i++) {
            int reason = reason(then, acts.get(i));
            if (reason != 0) {
                return what == 0 ? i : reason;
            }
            act(then, acts.get(i));
        }
        return NONE;
    }

    private boolean canNotBe() {
        return fault() != NONE || judge(0) != NONE;
    }

    private TreeMap<Integer, Monk> monksBehind() {
        TreeMap<Integer, Monk> then = copy(monks);
        acts().forEach(act -> act(then, act));
        return then;
    }

    int done() {
        if (canNotBe()) {
            return NO;
        }
        int acts = acts().size();
        monks = monksBehind();
        pad = "";
        return acts;
    }

    private static int tell(Monk monk, int what) {
        return what == 0 ? monk.count : monk.awake ? 1 : 0;
    }

    int state(int monk, int what) {
        if (!monks.containsKey(monk)) {
            return UNKNOWN;
        }
        return what == 0 || what == 1 ? tell(monks.get(monk), what) : OUTSIDE;
    }

    int behind(int monk, int what) {
        if (!monks.containsKey(monk)) {
            return UNKNOWN;
        }
        if (what != 0 && what != 1) {
            return OUTSIDE;
        }
        return canNotBe() ? NO : tell(monksBehind().get(monk), what);
    }

    int breaths(int what) {
        if (what != 0 && what != 1) {
            return OUTSIDE;
        }
        if (canNotBe()) {
            return NO;
        }
        TreeMap<Integer, Monk> then = copy(monks);
        int breaths = 0;
        int first = then.values().stream().anyMatch(monk -> monk.count == 0) ? 0 : NONE;
        for (String act : acts()) {
            boolean breath = act.equals(".") || act.equals(":");
            for (int i = 0; i < (act.equals(":") ? 10 : 1); i++) {
                act(then, breath ? "." : act);
                breaths += breath ? 1 : 0;
                if (breath && first == NONE && then.values().stream().anyMatch(monk -> monk.count == 0)) {
                    first = breaths;
                }
            }
        }
        return what == 0 ? breaths : first;
    }

    int noticed() {
        if (canNotBe()) {
            return NO;
        }
        TreeMap<Integer, Monk> then = copy(monks);
        List<String> acts = acts();
        for (int i = 0; i < acts.size(); i++) {
            act(then, acts.get(i));
            for (Monk one : awake(then)) {
                for (Monk other : awake(then)) {
                    if (one.count - other.count > sharp) {
                        return i;
                    }
                }
            }
        }
        return NONE;
    }

    int ahead() {
        int best = NONE;
        for (int monk : monks.keySet()) {
            if (monks.get(monk).awake && (best == NONE || monks.get(monk).count < monks.get(best).count)) {
                best = monk;
            }
        }
        return best;
    }

    int differ() {
        int[] counts = awake(monks).stream().mapToInt(monk -> monk.count).sorted().toArray();
        return counts.length == 0 ? 0 : counts[counts.length - 1] - counts[0];
    }

    int alike(int i) {
        List<Integer> twos = new ArrayList<>();
        for (int two = 0; two < 88; two++) {
            Monk one = monks.get(two / 10);
            Monk other = monks.get(two % 10);
            boolean both = two / 10 < two % 10 && one != null && other != null && one.awake && other.awake;
            if (both && one.count == other.count) {
                twos.add(two);
            }
        }
        if (i == -1) {
            return twos.size();
        }
        return i >= 0 && i < twos.size() ? twos.get(i) : NONE;
    }

    private static int breathsOf(Monk monk) {
        int breaths = 0;
        for (int left = monk.count; left > 0; left -= monk.pace) {
            breaths++;
        }
        return breaths;
    }

    int ends(int monk) {
        if (monk == -1) {
            return awake(monks).stream().mapToInt(PlainModel::breathsOf).max().orElse(NONE);
        }
        if (!monks.containsKey(monk)) {
            return UNKNOWN;
        }
        return monks.get(monk).awake ? breathsOf(monks.get(monk)) : NONE;
    }

    int meet(int monk, int other) {
        Monk one = monks.get(monk);
        Monk two = monks.get(other);
        if (one == null || two == null || one == two || !one.awake || !two.awake) {
            return UNKNOWN;
        }
        int a = one.count;
        int b = two.count;
        for (int breath = 0; a > 0 && b > 0; breath++) {
            if (a == b) {
                return breath;
            }
            a -= one.pace;
            b -= two.pace;
        }
        return NONE;
    }

    static boolean bowsAt(int law, int number) {
        if (number == 0) {
            return false;
        }
        String digits = Integer.toString(number);
        return switch (law) {
            case 0 -> BigInteger.valueOf(number).isProbablePrime(30);
            case 1 -> BigInteger.valueOf(number).sqrtAndRemainder()[1].signum() == 0;
            case 2 -> new StringBuilder(digits).reverse().toString().equals(digits);
            case 3 -> number % digits.chars().map(digit -> digit - '0').sum() == 0;
            default -> Integer.toBinaryString(number).lastIndexOf('1') == 0;
        };
    }

    int bows(int law, int from, int to) {
        if (law < 0 || law > 4 || from < 1 || from > 100000 || to < 1 || to > 100000) {
            return OUTSIDE;
        }
        int many = 0;
        for (int number = from; number <= to; number++) {
            many += bowsAt(law, number) ? 1 : 0;
        }
        return many;
    }

    int next(int law, int v) {
        if (law < 0 || law > 4 || v < 0 || v > 1000000) {
            return OUTSIDE;
        }
        for (int number = v; number > 0; number--) {
            if (bowsAt(law, number)) {
                return number;
            }
        }
        return NONE;
    }

    int elbows(int what) {
        if (what != 0 && what != 1) {
            return OUTSIDE;
        }
        if (awake(monks).isEmpty()) {
            return NONE;
        }
        Map<List<Integer>, Integer> steps = new HashMap<>();
        Deque<List<Integer>> queue = new ArrayDeque<>();
        List<Integer> now = awake(monks).stream().map(monk -> monk.count).toList();
        steps.put(now, 0);
        queue.add(now);
        while (true) {
            List<Integer> counts = queue.remove();
            if (counts.stream().distinct().count() == 1) {
                return what == 0 ? steps.get(counts) : counts.get(0);
            }
            for (int i = 0; i < counts.size(); i++) {
                List<Integer> then = new ArrayList<>(counts);
                then.set(i, mode(counts));
                if (steps.putIfAbsent(then, steps.get(counts) + 1) == null) {
                    queue.add(then);
                }
            }
        }
    }

    /** Hour by hour those who have slept and have most hours left. */
    private static boolean relayGoes(int monks, int k, int h, int r) {
        Integer[] left = new Integer[monks];
        boolean[] was = new boolean[monks];
        Arrays.fill(left, r);
        for (int hour = 0; hour < h; hour++) {
            List<Integer> ready = new ArrayList<>();
            for (int monk = 0; monk < monks; monk++) {
                if (!was[monk] && left[monk] > 0) {
                    ready.add(monk);
                }
            }
            if (ready.size() < k) {
                return false;
            }
            ready.sort((one, other) -> left[other] - left[one]);
            Arrays.fill(was, false);
            for (int monk : ready.subList(0, k)) {
                was[monk] = true;
                left[monk]--;
            }
        }
        return true;
    }

    int relays(int k, int h, int r, int what) {
        if (k < 1 || k > 8 || h < 1 || h > 24 || r < 1 || r > 24 || what < 0 || what > 1) {
            return OUTSIDE;
        }
        if (what == 0) {
            return relayGoes(monks.size(), k, h, r) ? 1 : 0;
        }
        for (int many = 0; many <= 8; many++) {
            if (relayGoes(many, k, h, r)) {
                return many;
            }
        }
        return NONE;
    }

    int beads(int n, int what) {
        if (n < 0 || n > 200 || what < 0 || what > 1) {
            return OUTSIDE;
        }
        List<Integer> strings = new ArrayList<>();
        for (int fives = 0; fives <= 40; fives++) {
            for (int sevens = 0; sevens <= 28; sevens++) {
                for (int twelves = 0; twelves <= 16; twelves++) {
                    if (5 * fives + 7 * sevens + 12 * twelves == n) {
                        strings.add(fives + sevens + twelves);
                    }
                }
            }
        }
        return what == 1 ? strings.size() : strings.stream().min(Integer::compare).orElse(NONE);
    }

    int seen(int monk, int breaths, boolean bowed) {
        if (!monks.containsKey(monk)) {
            return UNKNOWN;
        }
        if (breaths < 0 || breaths > 99) {
            return OUTSIDE;
        }
        if (sights.size() == 8) {
            return FULL;
        }
        sights.add(new Sight(monk, breaths, bowed));
        return sights.size();
    }

    int forget() {
        int were = sights.size();
        sights.clear();
        return were;
    }

    private boolean bowsIn(World world, int law, int monk, int breaths) {
        if (!monks.containsKey(monk) || !monks.get(monk).awake) {
            return false;
        }
        int count = monks.get(monk).count;
        if (world.monk == monk) {
            count = Math.max(0, count - world.skipped);
        }
        for (int i = 0; i < breaths; i++) {
            count = Math.max(0, count - monks.get(monk).pace);
        }
        return bowsAt(law, count);
    }

    private List<World> worlds(int law) {
        List<World> all = new ArrayList<>();
        all.add(new World(-1, 0));
        for (int monk : monks.keySet()) {
            for (int skipped = 1; skipped <= 9 && monks.get(monk).awake; skipped++) {
                all.add(new World(monk, skipped));
            }
        }
        all.removeIf(world -> sights.stream()
            .anyMatch(sight -> bowsIn(world, law, sight.monk, sight.breaths) != sight.bowed));
        return all;
    }

    int skips(int law, int what) {
        if (law < 0 || law > 4 || what < 0 || what > 2) {
            return OUTSIDE;
        }
        List<World> worlds = worlds(law);
        boolean nobody = worlds.remove(new World(-1, 0));
        if (what == 0) {
            return worlds.size() + (nobody ? 1 : 0);
        }
        if (what == 2) {
            return nobody ? 1 : 0;
        }
        return worlds.stream().mapToInt(world -> 1 << world.monk).reduce(0, (one, other) -> one | other);
    }

    int ask(int law, int b, int what) {
        if (law < 0 || law > 4 || b < 0 || b > 99 || what < 0 || what > 1) {
            return OUTSIDE;
        }
        List<World> worlds = worlds(law);
        int best = NONE;
        int fewest = NONE;
        for (int monk : monks.keySet()) {
            if (!monks.get(monk).awake || worlds.isEmpty()) {
                continue;
            }
            int yes = (int) worlds.stream().filter(world -> bowsIn(world, law, monk, b)).count();
            int most = Math.max(yes, worlds.size() - yes);
            if (best == NONE || most < fewest) {
                best = monk;
                fewest = most;
            }
        }
        return what == 0 ? best : fewest;
    }

    /** The upper number over 10 to the m, by each bee that comes or not. */
    private BigInteger byBees(int left, int pace, int m, int t, int what) {
        if (m == 0) {
            return BigInteger.valueOf(what == 0 ? left : left == 0 ? 1 : 0);
        }
        BigInteger bee = byBees(house, pace, m - 1, t, what).multiply(BigInteger.valueOf(t));
        BigInteger none = byBees(Math.max(0, left - pace), pace, m - 1, t, what).multiply(BigInteger.valueOf(10 - t));
        return bee.add(none);
    }

    long bees(int m, int t, int what, int part) {
        if (m < 0 || m > 10 || t < 0 || t > 10 || what < 0 || what > 1 || part < 0 || part > 1) {
            return LOST + OUTSIDE;
        }
        if (ahead() == NONE) {
            return LOST + STATE;
        }
        Monk alone = monks.get(ahead());
        BigInteger upper = byBees(alone.count, alone.pace, m, t, what);
        BigInteger lower = BigInteger.TEN.pow(m);
        return (part == 0 ? upper : lower).divide(upper.gcd(lower)).longValueExact();
    }

    int year(int seed, int m, int what) {
        if (seed < 0 || seed > 9999 || m < 1 || m > 99 || what < 0 || what > 2) {
            return OUTSIDE;
        }
        TreeMap<Integer, Monk> then = copy(monks);
        long x = seed;
        int toNought = 0;
        for (int i = 0; i < m; i++) {
            x = (75 * x + 74) % 65537;
            char he = (char) ('A' + x / 8 % 8);
            char other = (char) ('A' + x / 64 % 8);
            String act = switch ((int) (x % 8)) {
                case 0 -> "!";
                case 1 -> "*";
                case 2 -> he + "k";
                case 3 -> he + "e";
                case 4 -> "" + he + other;
                case 5 -> he + "w";
                default -> ":";
            };
            TreeMap<Integer, Monk> before = copy(then);
            if (reason(then, act) == 0) {
                act(then, act);
            }
            boolean somebody = then.keySet().stream()
                .anyMatch(monk -> then.get(monk).count == 0 && before.get(monk).count != 0);
            toNought += somebody ? 1 : 0;
        }
        return switch (what) {
            case 0 -> then.values().stream().mapToInt(monk -> monk.count).sum();
            case 1 -> awake(then).size();
            default -> toNought;
        };
    }

    int image(int n) {
        if (n != 0 && n != 1) {
            return OUTSIDE;
        }
        images.put(n, new Kept(copy(monks), house, sharp, List.copyOf(sights)));
        return 1;
    }

    int restore(int n) {
        if (n != 0 && n != 1) {
            return OUTSIDE;
        }
        Kept kept = images.get(n);
        if (kept == null) {
            return STATE;
        }
        monks = copy(kept.monks);
        house = kept.house;
        sharp = kept.sharp;
        sights = new ArrayList<>(kept.sights);
        return 1;
    }

    int told(int what) {
        int there = monks.keySet().stream().mapToInt(monk -> 1 << monk).sum();
        int awake = monks.keySet().stream().filter(monk -> monks.get(monk).awake).mapToInt(monk -> 1 << monk).sum();
        int[] answers = {pad.length(), there, awake, house, sharp, sights.size()};
        if (what >= 0 && what < answers.length) {
            return answers[what];
        }
        return what >= 10 && monks.containsKey(what - 10) ? monks.get(what - 10).pace : OUTSIDE;
    }
}
