import java.util.Arrays;

/** Ends, bows, relays. */
public final class Promises17To23Test {
    private static final int NONE = -6, UNKNOWN = -1, OUTSIDE = -2;

    public static void main(String[] args) {
        promise17();
        promise18();
        promise19();
        promise19Counts();
        promise20();
        promise20Search();
        promise21();
        promise22();
        promise22BySearch();
        promise23();
        Due.close();
    }

    private static void promise17() {
        SilenceCount house = new SilenceCount();
        Due.is("nobody ends", house.ends(-1), NONE);
        house.monk(0, 0, 9);
        Due.is("all at 0", house.ends(-1), 0);
        house.monk(1, 10, 9);
        house.monk(2, 9, 9);
        house.monk(3, 1000000, 1);
        Due.is("at 0", house.ends(0), 0);
        Due.is("rounded up", house.ends(1), 2);
        Due.is("just", house.ends(2), 1);
        Due.is("long", house.ends(3), 1000000);
        Due.is("all", house.ends(-1), 1000000);
        Told.pass(house, "DB");
        Due.is("who sleeps", house.ends(3), NONE);
        Due.is("all but who sleeps", house.ends(-1), (500005 + 8) / 9);
        Told.pass(house, "BACA");
        Due.is("the last who is awake", house.ends(-1), house.ends(0));
        house.leave(0);
        Due.is("only sleepers", house.ends(-1), NONE);
        for (int monk : new int[] {0, 7, 8, -2, 31, Integer.MIN_VALUE, Integer.MAX_VALUE}) {
            Due.is("ends of " + monk, house.ends(monk), UNKNOWN);
        }
    }

    private static void promise18() {
        meets(100, 3, 90, 2, 10);
        meets(90, 2, 100, 3, 10);
        meets(100, 3, 100, 3, 0);
        meets(100, 3, 100, 4, 0);
        meets(0, 3, 0, 4, NONE);
        meets(100, 3, 91, 3, NONE);
        meets(100, 3, 89, 1, NONE);
        meets(100, 3, 110, 2, NONE);
        meets(100, 3, 110, 4, 10);
        meets(20, 2, 10, 1, NONE);
        meets(21, 2, 11, 1, 10);
        meets(0, 9, 5, 1, NONE);
        meets(1000000, 9, 888889, 8, 111111);
        meets(1000000, 9, 888888, 8, NONE);
        meets(1000000, 9, 888900, 8, 111100);
        for (int a = 0; a < 25; a++) {
            for (int b = 0; b < 25; b++) {
                for (int paces = 0; paces < 81; paces++) {
                    meets(a, 1 + paces / 9, b, 1 + paces % 9, meetByBreaths(a, 1 + paces / 9, b, 1 + paces % 9));
                }
            }
        }
        SilenceCount house = Told.three();
        Due.is("one", house.meet(1, 1), UNKNOWN);
        Due.is("not there", house.meet(0, 3), UNKNOWN);
        Due.is("not there, first", house.meet(3, 0), UNKNOWN);
        Due.is("no monk", house.meet(0, 8), UNKNOWN);
        Due.is("no monk, first", house.meet(-1, 0), UNKNOWN);
        Due.is("no monk by wrapping", house.meet(32, 0), UNKNOWN);
        Told.pass(house, "AB");
        Due.is("who sleeps", house.meet(1, 0), UNKNOWN);
        Due.is("who sleeps, first", house.meet(0, 1), UNKNOWN);
    }

    private static void meets(int a, int paceA, int b, int paceB, int want) {
        SilenceCount house = new SilenceCount();
        house.monk(0, a, paceA);
        house.monk(7, b, paceB);
        Due.is("meet of " + a + " by " + paceA + " and " + b + " by " + paceB, house.meet(0, 7), want);
        Due.is("meet the other way", house.meet(7, 0), want);
    }

    private static int meetByBreaths(int a, int paceA, int b, int paceB) {
        for (int breath = 0; breath < 100; breath++) {
            int left = Math.max(0, a - breath * paceA);
            if (left > 0 && left == Math.max(0, b - breath * paceB)) {
                return breath;
            }
        }
        return NONE;
    }

    private static boolean bowsAt(int law, int number) {
        String digits = Integer.toString(number);
        switch (law) {
            case 0:
                for (int divisor = 2; divisor * divisor <= number; divisor++) {
                    if (number % divisor == 0) {
                        return false;
                    }
                }
                return number > 1;
            case 1:
                int root = (int) Math.round(Math.sqrt(number));
                return root * root == number;
            case 2:
                return new StringBuilder(digits).reverse().toString().equals(digits);
            case 3:
                return number % digits.chars().map(digit -> digit - '0').sum() == 0;
            default:
                return Integer.bitCount(number) == 1;
        }
    }

    private static void promise19() {
        SilenceCount house = new SilenceCount();
        Due.is("the second is below the first", house.bows(1, 100, 1), 0);
        Due.is("law -1", house.bows(-1, 1, 1), OUTSIDE);
        Due.is("law 5", house.bows(5, 1, 1), OUTSIDE);
        for (int law = 0; law < 5; law++) {
            int by = law;
            Due.is("from 0", house.bows(by, 0, 1), OUTSIDE);
            Due.is("from 100001", house.bows(by, 100001, 1), OUTSIDE);
            Due.is("to 0", house.bows(by, 1, 0), OUTSIDE);
            Due.is("to 100001", house.bows(by, 1, 100001), OUTSIDE);
            Due.is("from least", house.bows(by, Integer.MIN_VALUE, 1), OUTSIDE);
            Due.is("to greatest", house.bows(by, 1, Integer.MAX_VALUE), OUTSIDE);
        }
    }

    private static void promise19Counts() {
        int[] edges = {1, 2, 3, 4, 10, 11, 63, 64, 65, 127, 128, 997, 9999, 10000, 10001, 65536, 99856, 99991, 99999,
            100000};
        for (int law = 0; law < 5; law++) {
            int[] upTo = new int[100001];
            for (int number = 1; number <= 100000; number++) {
                upTo[number] = upTo[number - 1] + (bowsAt(law, number) ? 1 : 0);
            }
            for (int from : edges) {
                SilenceCount house = new SilenceCount();
                for (int to : edges) {
                    int want = to < from ? 0 : upTo[to] - upTo[from - 1];
                    Due.is("bows " + law + " " + from + " " + to, house.bows(law, from, to), want);
                }
            }
            SilenceCount house = new SilenceCount();
            for (int number = 1; number <= 100000; number++) {
                // An object is used for 512 calls at most.
                house = number % 500 == 0 ? new SilenceCount() : house;
                if (house.bows(law, number, number) != upTo[number] - upTo[number - 1]) {
                    Due.is("bows " + law + " at " + number, 0, 1);
                }
            }
        }
    }

    private static void promise20() {
        SilenceCount house = new SilenceCount();
        int[] highest = {999983, 1000000, 999999, 1000000, 524288};
        for (int law = 0; law < 5; law++) {
            int by = law;
            Due.is("at 0 nobody bows", house.next(law, 0), NONE);
            Due.is("next from 1", house.next(law, 1), law == 0 ? NONE : 1);
            Due.is("next from 2", house.next(law, 2), law == 1 ? 1 : 2);
            Due.is("next from the highest", house.next(law, 1000000), highest[law]);
            Due.is("v -1", house.next(by, -1), OUTSIDE);
            Due.is("v 1000001", house.next(by, 1000001), OUTSIDE);
            Due.is("v greatest", house.next(by, Integer.MAX_VALUE), OUTSIDE);
            Due.is("v least", house.next(by, Integer.MIN_VALUE), OUTSIDE);
        }
        Due.is("law -1", house.next(-1, 1), OUTSIDE);
        Due.is("law 5", house.next(5, 1), OUTSIDE);
    }

    private static void promise20Search() {
        for (int law = 0; law < 5; law++) {
            int last = NONE;
            SilenceCount house = new SilenceCount();
            for (int v = 1; v <= 1000000; v++) {
                house = v % 500 == 0 ? new SilenceCount() : house;
                boolean near = v < 3000 || v % 97 == 0 || v > 998000;
                if (bowsAt(law, v)) {
                    last = v;
                    near = true;
                }
                if (near && house.next(law, v) != last) {
                    Due.is("next " + law + " from " + v, house.next(law, v), last);
                }
            }
        }
    }

    private static void promise21() {
        SilenceCount house = new SilenceCount();
        elbowsAre(house, NONE, NONE);
        house.monk(0, 8, 1);
        elbowsAre(house, 0, 8);
        house.monk(1, 5, 1);
        elbowsAre(house, 1, 5);
        house.monk(2, 8, 1);
        elbowsAre(house, 1, 8);
        house.monk(3, 5, 1);
        elbowsAre(house, 2, 5);
        house.monk(4, 3, 1);
        house.monk(5, 3, 1);
        house.monk(6, 8, 1);
        elbowsAre(house, 4, 8);
        Told.pass(house, "GA");
        elbowsAre(house, 4, 3);
        house.monk(7, 0, 1);
        elbowsAre(house, 5, 3);
        Told.write(house, "AeBeCeDeHe");
        Due.is("the elbows suffice", house.done(), 5);
        elbowsAre(house, 0, 3);
        house.monk(0, 0, 1);
        house.monk(1, 0, 1);
        for (int monk = 2; monk < 8; monk++) {
            house.leave(monk);
        }
        elbowsAre(house, 0, 0);
        Told.pass(house, "AB");
        house.leave(1);
        elbowsAre(house, NONE, NONE);
        Due.is("what 2", house.elbows(2), OUTSIDE);
        Due.is("what -1", house.elbows(-1), OUTSIDE);
    }

    private static void elbowsAre(SilenceCount house, int many, int number) {
        Due.is("elbows", house.elbows(0), many);
        Due.is("elbows to", house.elbows(1), number);
    }

    private static void promise22() {
        SilenceCount house = Told.three();
        Told.pass(house, "AB");
        Due.is("who sleeps now counts", house.relays(3, 1, 1, 0), 1);
        Due.is("too many", house.relays(4, 1, 1, 0), 0);
        Due.is("by turns", house.relays(1, 24, 8, 0), 1);
        Due.is("by turns, too few hours each", house.relays(1, 24, 7, 0), 0);
        Due.is("never two in a row", house.relays(2, 2, 24, 0), 0);
        Due.is("four by four", house.relays(4, 24, 24, 1), 8);
        Due.is("four by four, twelve each", house.relays(4, 24, 12, 1), 8);
        Due.is("four by four, eleven each", house.relays(4, 24, 11, 1), NONE);
        Due.is("eight", house.relays(8, 1, 24, 1), 8);
        Due.is("eight twice", house.relays(8, 2, 24, 1), NONE);
        Due.is("nobody is there", new SilenceCount().relays(1, 1, 1, 0), 0);
        int[][] wrong = {{0, 1, 1, 0}, {9, 1, 1, 0}, {1, 0, 1, 0}, {1, 25, 1, 0}, {1, 1, 0, 0}, {1, 1, 25, 0},
            {1, 1, 1, -1}, {1, 1, 1, 2}, {Integer.MIN_VALUE, 1, 1, 0}, {1, Integer.MAX_VALUE, 1, 0}};
        for (int[] w : wrong) {
            Due.is("relays " + Arrays.toString(w), house.relays(w[0], w[1], w[2], w[3]), OUTSIDE);
        }
    }

    private static void promise22BySearch() {
        for (int k = 1; k <= 3; k++) {
            for (int h = 1; h <= 6; h++) {
                for (int r = 1; r <= 4; r++) {
                    int fewest = NONE;
                    SilenceCount house = new SilenceCount();
                    for (int monks = 1; monks <= 8; monks++) {
                        house.monk(monks - 1, 1, 1);
                        int can = canRelay(new int[monks], 0, k, h, r) ? 1 : 0;
                        String call = "relays " + k + " " + h + " " + r + " by " + monks;
                        Due.is(call, house.relays(k, h, r, 0), can);
                        fewest = fewest == NONE && can == 1 ? monks : fewest;
                    }
                    Due.is("relays " + k + " " + h + " " + r, house.relays(k, h, r, 1), fewest);
                }
            }
        }
    }

    /** Tries every choice of k in every hour; monks with the same past are tried once. */
    private static boolean canRelay(int[] used, int last, int k, int h, int r) {
        if (h == 0) {
            return true;
        }
        java.util.Set<String> tried = new java.util.HashSet<>();
        for (int choice = 0; choice < 1 << used.length; choice++) {
            if (Integer.bitCount(choice) != k || (choice & last) != 0) {
                continue;
            }
            int[] then = used.clone();
            boolean fits = true;
            int[] past = new int[used.length];
            for (int monk = 0; monk < used.length; monk++) {
                int chosen = choice >> monk & 1;
                then[monk] += chosen;
                fits &= then[monk] <= r;
                past[monk] = 2 * then[monk] + chosen;
            }
            Arrays.sort(past);
            if (fits && tried.add(Arrays.toString(past)) && canRelay(then, choice, k, h - 1, r)) {
                return true;
            }
        }
        return false;
    }

    private static void promise23() {
        int[] ways = new int[201];
        int[] fewest = new int[201];
        Arrays.fill(fewest, NONE);
        for (int a = 0; a <= 40; a++) {
            for (int b = 0; b <= 28; b++) {
                for (int c = 0; c <= 16; c++) {
                    int n = 5 * a + 7 * b + 12 * c;
                    if (n <= 200) {
                        ways[n]++;
                        fewest[n] = fewest[n] == NONE ? a + b + c : Math.min(fewest[n], a + b + c);
                    }
                }
            }
        }
        for (int n = 0; n <= 200; n++) {
            SilenceCount house = new SilenceCount();
            Due.is("beads, fewest of " + n, house.beads(n, 0), fewest[n]);
            Due.is("beads, ways of " + n, house.beads(n, 1), ways[n]);
        }
        SilenceCount house = new SilenceCount();
        Due.is("beads -1", house.beads(-1, 0), OUTSIDE);
        Due.is("beads 201", house.beads(201, 1), OUTSIDE);
        Due.is("what 2", house.beads(1, 2), OUTSIDE);
        Due.is("what -1", house.beads(1, -1), OUTSIDE);
    }
}
