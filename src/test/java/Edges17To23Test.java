/** Promises 17 to 23: each sentence that names a boundary, just within it, just outside it, and what is refused. */
public final class Edges17To23Test {
    private static final int NONE = -6, UNKNOWN = -1, OUTSIDE = -2;
    private static final int LEAST = Integer.MIN_VALUE, GREATEST = Integer.MAX_VALUE;

    public static void main(String[] args) {
        promise17OfAMonk();
        promise17HeSleeps();
        promise17OfAll();
        promise17Unknown();
        promise18FromNowOn();
        promise18AboveNought();
        promise18None();
        promise18Unknown();
        promise19Law();
        promise19Numbers();
        promise19BothCounted();
        promise19SecondBelowFirst();
        promise20Law();
        promise20Numbers();
        promise20AtOrBelow();
        promise20None();
        promise21None();
        promise21Fewest();
        promise21What();
        promise22Monks();
        promise22Hours();
        promise22HoursOfEach();
        promise22What();
        promise22NotInTheOneBehind();
        promise22WhoIsThere();
        promise22NotByEight();
        promise23Beads();
        promise23None();
        promise23What();
        Due.close();
    }

    private static void promise17OfAMonk() {
        Sentence.of(17, "in how many breaths from now a MONK is at 0",
            () -> Houses.of(0, 9, 1, 9, 9, 9, 10, 9, 1000000, 1, 1000000, 9, 18, 9, 19, 9))
            .answers("at 0 now", house -> house.ends(0), 0)
            .answers("1 by 9", house -> house.ends(1), 1)
            .answers("9 by 9", house -> house.ends(2), 1)
            .answers("10 by 9", house -> house.ends(3), 2)
            .answers("the most", house -> house.ends(4), 1000000)
            .answers("1000000 by 9", house -> house.ends(5), 111112)
            .answers("18 by 9", house -> house.ends(6), 2)
            .answers("19 by 9", house -> house.ends(7), 3);
    }

    private static void promise17HeSleeps() {
        Sentence.of(17, "NONE: he sleeps", Houses::asleep)
            .answers("at 20", house -> house.ends(0), NONE)
            .answers("at 0", house -> house.ends(1), NONE);
    }

    private static void promise17OfAll() {
        Sentence.of(17, "of all (-1; NONE: nobody is AWAKE)", SilenceCount::new)
            .answers("nobody there", house -> house.ends(-1), NONE);
        Sentence.of(17, "of all (-1; NONE: nobody is AWAKE)", Houses::asleep)
            .answers("only sleepers", house -> house.ends(-1), NONE)
            .answers("one more, at 0", house -> house.monk(7, 0, 1) * 0 + house.ends(-1), 0);
        Sentence.of(17, "in how many all who are AWAKE are", () -> Houses.of(10, 1, 99, 9, 22, 2))
            .answers("the last", house -> house.ends(-1), 11);
        Sentence.of(17, "in how many all who are AWAKE are", () -> Houses.behind("AB", 1000000, 1, 0, 9))
            .answers("a sleeper does not count", house -> house.ends(-1), (500000 + 8) / 9);
    }

    private static void promise17Unknown() {
        Sentence ends = Sentence.of(17, "UNKNOWN", Houses::rich)
            .answers("ends(0)", house -> house.ends(0), 34)
            .answers("ends(7)", house -> house.ends(7), 13)
            .refuses("ends(3), who left", house -> house.ends(3), UNKNOWN)
            .refuses("ends(6)", house -> house.ends(6), UNKNOWN)
            .refuses("ends(-2)", house -> house.ends(-2), UNKNOWN);
        for (int monk : Houses.NO_MONKS) {
            if (monk != -1) {
                ends.refuses("ends(" + monk + ")", house -> house.ends(monk), UNKNOWN);
            }
        }
        Sentence.of(17, "UNKNOWN", SilenceCount::new)
            .refuses("ends(0), nobody there", house -> house.ends(0), UNKNOWN)
            .refuses("ends(7), nobody there", house -> house.ends(7), UNKNOWN);
    }

    private static void meets(String words, int[] monks, int want) {
        Sentence.of(18, words, () -> Houses.of(monks))
            .answers(java.util.Arrays.toString(monks), house -> house.meet(0, 1), want)
            .answers("the other way", house -> house.meet(1, 0), want);
    }

    private static void promise18FromNowOn() {
        String words = "the first breath from now (0 on)";
        meets(words, new int[] {5, 1, 5, 1}, 0);
        meets(words, new int[] {5, 1, 5, 9}, 0);
        meets(words, new int[] {1, 1, 1, 9}, 0);
        meets(words, new int[] {1000000, 1, 1000000, 9}, 0);
        meets(words, new int[] {11, 9, 3, 1}, 1);
        meets(words, new int[] {1000000, 9, 888889, 8}, 111111);
        meets(words, new int[] {5, 9, 6, 1}, NONE);
    }

    private static void promise18AboveNought() {
        String words = "are at one number, above 0";
        meets(words, new int[] {0, 1, 0, 1}, NONE);
        meets(words, new int[] {0, 1, 0, 9}, NONE);
        meets(words, new int[] {21, 2, 11, 1}, 10);
        meets(words, new int[] {20, 2, 10, 1}, NONE);
        meets(words, new int[] {19, 2, 9, 1}, NONE);
        meets(words, new int[] {0, 1, 1, 1}, NONE);
    }

    private static void promise18None() {
        meets("NONE (by one PACE)", new int[] {10, 3, 11, 3}, NONE);
        meets("NONE (they pass each other)", new int[] {101, 3, 100, 1}, NONE);
        meets("NONE (they part)", new int[] {100, 3, 101, 1}, NONE);
        meets("they do not pass each other", new int[] {102, 3, 100, 1}, 1);
    }

    private static void promise18Unknown() {
        Sentence meet = Sentence.of(18, "UNKNOWN: both, also one, or who sleeps", Houses::rich)
            .answers("meet(0, 2)", house -> house.meet(0, 2), 0)
            .answers("meet(0, 7)", house -> house.meet(0, 7), NONE)
            .refuses("one: meet(0, 0)", house -> house.meet(0, 0), UNKNOWN)
            .refuses("one: meet(7, 7)", house -> house.meet(7, 7), UNKNOWN)
            .refuses("one who sleeps: meet(1, 1)", house -> house.meet(1, 1), UNKNOWN)
            .refuses("who sleeps: meet(0, 1)", house -> house.meet(0, 1), UNKNOWN)
            .refuses("who sleeps: meet(1, 0)", house -> house.meet(1, 0), UNKNOWN)
            .refuses("who left: meet(0, 3)", house -> house.meet(0, 3), UNKNOWN)
            .refuses("who left: meet(3, 0)", house -> house.meet(3, 0), UNKNOWN)
            .refuses("nobody: meet(5, 6)", house -> house.meet(5, 6), UNKNOWN);
        for (int monk : Houses.NO_MONKS) {
            meet.refuses("meet(" + monk + ", 0)", house -> house.meet(monk, 0), UNKNOWN);
            meet.refuses("meet(0, " + monk + ")", house -> house.meet(0, monk), UNKNOWN);
        }
        meet.refuses("meet(8, 8)", house -> house.meet(8, 8), UNKNOWN);
        Sentence.of(18, "UNKNOWN: who sleeps", Houses::asleep)
            .refuses("both sleep", house -> house.meet(0, 1), UNKNOWN);
    }

    private static void promise19Law() {
        int[] many = {9592, 316, 1098, 11872, 17};
        Sentence bows = Sentence.of(19, "OUTSIDE: LAW 0 to 4", Houses::rich)
            .refuses("LAW -1", house -> house.bows(-1, 1, 9), OUTSIDE)
            .refuses("LAW 5", house -> house.bows(5, 1, 9), OUTSIDE)
            .refuses("LAW -1, 0 to 0", house -> house.bows(-1, 0, 0), OUTSIDE)
            .refuses("the least LAW", house -> house.bows(LEAST, 1, 9), OUTSIDE)
            .refuses("the greatest LAW", house -> house.bows(GREATEST, 1, 9), OUTSIDE);
        for (int law = 0; law < 5; law++) {
            int by = law;
            bows.answers("LAW " + law + ", all", house -> house.bows(by, 1, 100000), many[by]);
        }
    }

    private static void promise19Numbers() {
        Sentence bows = Sentence.of(19, "OUTSIDE: numbers 1 to 100000", Houses::rich);
        for (int law = 0; law < 5; law++) {
            int by = law;
            bows.answers("1 to 1", house -> house.bows(by, 1, 1), by == 0 ? 0 : 1)
                .answers("100000 to 100000", house -> house.bows(by, 100000, 100000), by == 3 ? 1 : 0)
                .refuses("from 0", house -> house.bows(by, 0, 9), OUTSIDE)
                .refuses("from 100001", house -> house.bows(by, 100001, 9), OUTSIDE)
                .refuses("from 100001 on", house -> house.bows(by, 100001, 100001), OUTSIDE)
                .refuses("to 0", house -> house.bows(by, 1, 0), OUTSIDE)
                .refuses("to 100001", house -> house.bows(by, 1, 100001), OUTSIDE)
                .refuses("from -1", house -> house.bows(by, -1, 9), OUTSIDE)
                .refuses("from the least", house -> house.bows(by, LEAST, 9), OUTSIDE)
                .refuses("to the greatest", house -> house.bows(by, 1, GREATEST), OUTSIDE);
        }
    }

    private static void promise19BothCounted() {
        // The first that bow, and the last up to 100000, of each LAW.
        int[][] ends = {{2, 99991}, {1, 99856}, {1, 99999}, {1, 100000}, {1, 65536}};
        int[] all = {9592, 316, 1098, 11872, 17};
        Sentence bows = Sentence.of(19, "from one number to another (both counted)", SilenceCount::new);
        for (int law = 0; law < 5; law++) {
            int by = law;
            int first = ends[by][0];
            int last = ends[by][1];
            bows.answers("LAW " + by + ", from the first to the last", house -> house.bows(by, first, last), all[by])
                .answers("LAW " + by + ", from behind the first", house -> house.bows(by, first + 1, last), all[by] - 1)
                .answers("LAW " + by + ", to ahead of the last", house -> house.bows(by, first, last - 1), all[by] - 1)
                .answers("LAW " + by + ", the last alone", house -> house.bows(by, last, last), 1)
                .answers("LAW " + by + ", the first alone", house -> house.bows(by, first, first), 1);
        }
    }

    private static void promise19SecondBelowFirst() {
        Sentence bows = Sentence.of(19, "0: the second is below the first", SilenceCount::new);
        for (int law = 0; law < 5; law++) {
            int by = law;
            bows.answers("2 to 1", house -> house.bows(by, 2, 1), 0)
                .answers("100000 to 1", house -> house.bows(by, 100000, 1), 0)
                .answers("100000 to 99999", house -> house.bows(by, 100000, 99999), 0);
        }
    }

    private static void promise20Law() {
        int[] highest = {999983, 1000000, 999999, 1000000, 524288};
        Sentence next = Sentence.of(20, "OUTSIDE: LAW", Houses::rich)
            .refuses("LAW -1", house -> house.next(-1, 9), OUTSIDE)
            .refuses("LAW 5", house -> house.next(5, 9), OUTSIDE)
            .refuses("the least LAW", house -> house.next(LEAST, 9), OUTSIDE)
            .refuses("the greatest LAW", house -> house.next(GREATEST, 9), OUTSIDE);
        for (int law = 0; law < 5; law++) {
            int by = law;
            next.answers("LAW " + law, house -> house.next(by, 1000000), highest[by]);
        }
    }

    private static void promise20Numbers() {
        Sentence next = Sentence.of(20, "OUTSIDE: v 0 to 1000000", Houses::rich);
        for (int law = 0; law < 5; law++) {
            int by = law;
            next.answers("v 0", house -> house.next(by, 0), NONE)
                .refuses("v -1", house -> house.next(by, -1), OUTSIDE)
                .refuses("v 1000001", house -> house.next(by, 1000001), OUTSIDE)
                .refuses("the least v", house -> house.next(by, LEAST), OUTSIDE)
                .refuses("the greatest v", house -> house.next(by, GREATEST), OUTSIDE);
        }
    }

    private static void promise20AtOrBelow() {
        // A LAW, the number at which they bow below, the next one, and the next but one.
        int[][] threes = {{0, 2, 3, 5}, {0, 89, 97, 101}, {0, 999961, 999979, 999983}, {1, 1, 4, 9}, {1, 81, 100, 121},
            {0, 23, 29, 31}, {0, 113, 127, 131}, {0, 167, 173, 179}, {1, 261121, 262144, 263169},
            {1, 996004, 998001, 1000000}, {2, 9, 11, 22}, {2, 999, 1001, 1111}, {2, 997799, 998899, 999999},
            {3, 10, 12, 18}, {3, 999984, 999990, 1000000}, {4, 1, 2, 4}, {4, 131072, 262144, 524288}};
        Sentence next = Sentence.of(20, "the next one at or below v", SilenceCount::new);
        for (int[] t : threes) {
            next.answers("LAW " + t[0] + ", at " + t[2], house -> house.next(t[0], t[2]), t[2])
                .answers("LAW " + t[0] + ", 1 below " + t[2], house -> house.next(t[0], t[2] - 1), t[1])
                .answers("LAW " + t[0] + ", 1 below " + t[3], house -> house.next(t[0], t[3] - 1), t[2]);
        }
    }

    private static void promise20None() {
        Sentence next = Sentence.of(20, "NONE", SilenceCount::new)
            .answers("no prime at or below 1", house -> house.next(0, 1), NONE)
            .answers("the first prime", house -> house.next(0, 2), 2)
            .answers("a prime's square is none", house -> house.next(0, 25), 23)
            .answers("a greater prime's square is none", house -> house.next(0, 994009), 993997);
        for (int law = 1; law < 5; law++) {
            int by = law;
            next.answers("LAW " + law + " at 1", house -> house.next(by, 1), 1);
        }
    }

    private static void promise21None() {
        Sentence.of(21, "NONE: nobody is AWAKE", SilenceCount::new)
            .answers("nobody there, how many", house -> house.elbows(0), NONE)
            .answers("nobody there, the number", house -> house.elbows(1), NONE);
        Sentence.of(21, "NONE: nobody is AWAKE", Houses::asleep)
            .answers("only sleepers, how many", house -> house.elbows(0), NONE)
            .answers("only sleepers, the number", house -> house.elbows(1), NONE);
    }

    private static void elbowed(String call, int many, int number, int... countsAndPaces) {
        Sentence.of(21, "the fewest e by which all who are AWAKE are at one number", () -> Houses.of(countsAndPaces))
            .answers(call + ", how many", house -> house.elbows(0), many)
            .answers(call + ", the number", house -> house.elbows(1), number);
    }

    private static void promise21Fewest() {
        elbowed("one alone", 0, 5, 5, 1);
        elbowed("one alone at 0", 0, 0, 0, 1);
        elbowed("alike", 0, 5, 5, 1, 5, 9);
        elbowed("two", 1, 0, 1000000, 1, 0, 1);
        elbowed("two of three", 1, 9, 9, 1, 9, 1, 0, 1);
        elbowed("two by two", 2, 5, 9, 1, 5, 1, 9, 1, 5, 1);
        elbowed("eight numbers", 7, 1, 8, 1, 7, 1, 6, 1, 5, 1, 4, 1, 3, 1, 2, 1, 1, 1);
        elbowed("eight alike", 0, 7, 7, 1, 7, 1, 7, 1, 7, 1, 7, 1, 7, 1, 7, 1, 7, 1);
        Sentence.of(21, "who are AWAKE", () -> Houses.behind("AD", 5, 1, 5, 1, 9, 1, 20, 1))
            .answers("a sleeper does not count", house -> house.elbows(0), 2)
            .answers("the number", house -> house.elbows(1), 5);
    }

    private static void promise21What() {
        Sentence.of(21, "how many (what = 0), the number (1). OUTSIDE", Houses::rich)
            .answers("what = 0", house -> house.elbows(0), 1)
            .answers("what = 1", house -> house.elbows(1), 100)
            .refuses("what = -1", house -> house.elbows(-1), OUTSIDE)
            .refuses("what = 2", house -> house.elbows(2), OUTSIDE)
            .refuses("the least", house -> house.elbows(LEAST), OUTSIDE)
            .refuses("the greatest", house -> house.elbows(GREATEST), OUTSIDE);
        Sentence.of(21, "OUTSIDE", SilenceCount::new)
            .refuses("nobody there", house -> house.elbows(2), OUTSIDE);
    }

    private static Sentence relays(String words) {
        return Sentence.of(22, words, Houses::rich);
    }

    private static void promise22Monks() {
        relays("k MONKS (1 to 8); OUTSIDE")
            .answers("k 1", house -> house.relays(1, 1, 1, 0), 1)
            .answers("k 1, the fewest", house -> house.relays(1, 1, 1, 1), 1)
            .answers("k 8", house -> house.relays(8, 1, 1, 0), 0)
            .answers("k 8, the fewest", house -> house.relays(8, 1, 1, 1), 8)
            .refuses("k 0", house -> house.relays(0, 1, 1, 0), OUTSIDE)
            .refuses("k 9", house -> house.relays(9, 1, 1, 1), OUTSIDE)
            .refuses("the least k", house -> house.relays(LEAST, 1, 1, 0), OUTSIDE)
            .refuses("the greatest k", house -> house.relays(GREATEST, 1, 1, 1), OUTSIDE);
    }

    private static void promise22Hours() {
        relays("h hours (1 to 24); OUTSIDE")
            .answers("h 1", house -> house.relays(4, 1, 1, 0), 1)
            .answers("h 24", house -> house.relays(2, 24, 12, 0), 1)
            .answers("h 24, the fewest", house -> house.relays(2, 24, 12, 1), 4)
            .refuses("h 0", house -> house.relays(1, 0, 1, 0), OUTSIDE)
            .refuses("h 25", house -> house.relays(1, 25, 24, 1), OUTSIDE)
            .refuses("the least h", house -> house.relays(1, LEAST, 1, 0), OUTSIDE)
            .refuses("the greatest h", house -> house.relays(1, GREATEST, 1, 1), OUTSIDE);
    }

    private static void promise22HoursOfEach() {
        relays("in r hours at most (1 to 24); OUTSIDE")
            .answers("r 1, as many hours as are there", house -> house.relays(1, 4, 1, 0), 1)
            .answers("r 1, an hour more", house -> house.relays(1, 5, 1, 0), 0)
            .answers("r 1, eight hours", house -> house.relays(1, 8, 1, 1), 8)
            .answers("r 1, nine hours", house -> house.relays(1, 9, 1, 1), NONE)
            .answers("r 6 of 24", house -> house.relays(1, 24, 6, 0), 1)
            .answers("r 5 of 24", house -> house.relays(1, 24, 5, 0), 0)
            .answers("r 24", house -> house.relays(1, 24, 24, 1), 2)
            .answers("r 12", house -> house.relays(1, 24, 12, 1), 2)
            .answers("r 11", house -> house.relays(1, 24, 11, 1), 3)
            .refuses("r 0", house -> house.relays(1, 1, 0, 0), OUTSIDE)
            .refuses("r 25", house -> house.relays(1, 1, 25, 1), OUTSIDE)
            .refuses("the least r", house -> house.relays(1, 1, LEAST, 0), OUTSIDE)
            .refuses("the greatest r", house -> house.relays(1, 1, GREATEST, 1), OUTSIDE);
    }

    private static void promise22What() {
        relays("whether (what = 0), the fewest (1). OUTSIDE")
            .answers("what = 0", house -> house.relays(2, 2, 1, 0), 1)
            .answers("what = 1", house -> house.relays(2, 2, 1, 1), 4)
            .refuses("what = -1", house -> house.relays(1, 1, 1, -1), OUTSIDE)
            .refuses("what = 2", house -> house.relays(1, 1, 1, 2), OUTSIDE)
            .refuses("the least", house -> house.relays(1, 1, 1, LEAST), OUTSIDE)
            .refuses("the greatest", house -> house.relays(1, 1, 1, GREATEST), OUTSIDE);
    }

    private static void promise22NotInTheOneBehind() {
        relays("not in the one behind one in which he was")
            .answers("one hour, three of four", house -> house.relays(3, 1, 24, 0), 1)
            .answers("two hours, three of four", house -> house.relays(3, 2, 24, 0), 0)
            .answers("two hours, two of four", house -> house.relays(2, 2, 24, 0), 1)
            .answers("two hours by three: the fewest", house -> house.relays(3, 2, 24, 1), 6)
            .answers("one hour by three: the fewest", house -> house.relays(3, 1, 24, 1), 3);
    }

    private static void promise22WhoIsThere() {
        Sentence.of(22, "each who is there (also who sleeps now)", Houses::asleep)
            .answers("two sleepers", house -> house.relays(2, 1, 1, 0), 1)
            .answers("three", house -> house.relays(3, 1, 1, 0), 0);
        Sentence.of(22, "each who is there", SilenceCount::new)
            .answers("nobody there", house -> house.relays(1, 1, 24, 0), 0)
            .answers("the fewest, nobody there", house -> house.relays(1, 1, 24, 1), 1);
    }

    private static void promise22NotByEight() {
        relays("the fewest (NONE: not by 8)")
            .answers("four by four", house -> house.relays(4, 2, 1, 1), 8)
            .answers("five by five", house -> house.relays(5, 2, 24, 1), NONE)
            .answers("twelve hours of each of eight", house -> house.relays(4, 24, 12, 1), 8)
            .answers("eleven hours of each of eight", house -> house.relays(4, 24, 11, 1), NONE)
            .answers("eight in one hour", house -> house.relays(8, 1, 24, 1), 8)
            .answers("eight in two hours", house -> house.relays(8, 2, 24, 1), NONE);
    }

    private static void promise23Beads() {
        Sentence.of(23, "n beads (0 to 200); OUTSIDE", Houses::rich)
            .answers("n 0, the fewest", house -> house.beads(0, 0), 0)
            .answers("n 0, ways", house -> house.beads(0, 1), 1)
            .answers("n 200, the fewest", house -> house.beads(200, 0), 19)
            .answers("n 200, ways", house -> house.beads(200, 1), 53)
            .refuses("n -1", house -> house.beads(-1, 0), OUTSIDE)
            .refuses("n 201", house -> house.beads(201, 0), OUTSIDE)
            .refuses("n -1, ways", house -> house.beads(-1, 1), OUTSIDE)
            .refuses("n 201, ways", house -> house.beads(201, 1), OUTSIDE)
            .refuses("the least n", house -> house.beads(LEAST, 0), OUTSIDE)
            .refuses("the greatest n", house -> house.beads(GREATEST, 0), OUTSIDE);
    }

    private static void promise23None() {
        Sentence beads = Sentence.of(23, "the fewest strings; NONE", SilenceCount::new);
        for (int n : new int[] {1, 2, 3, 4, 6, 8, 9, 11, 13, 16, 18, 23}) {
            beads.answers(n + " beads, the fewest", house -> house.beads(n, 0), NONE)
                .answers(n + " beads, ways", house -> house.beads(n, 1), 0);
        }
        for (int n : new int[] {5, 7, 12}) {
            beads.answers(n + " beads, the fewest", house -> house.beads(n, 0), 1)
                .answers(n + " beads, ways", house -> house.beads(n, 1), n == 12 ? 2 : 1);
        }
        beads.answers("24 beads, the first behind which all can", house -> house.beads(24, 0), 2)
            .answers("35 beads, ways", house -> house.beads(35, 1), 2);
    }

    private static void promise23What() {
        Sentence.of(23, "the fewest (what = 0), ways (1). OUTSIDE", Houses::rich)
            .answers("what = 0", house -> house.beads(17, 0), 2)
            .answers("what = 1", house -> house.beads(17, 1), 2)
            .refuses("what = -1", house -> house.beads(12, -1), OUTSIDE)
            .refuses("what = 2", house -> house.beads(12, 2), OUTSIDE)
            .refuses("the least", house -> house.beads(12, LEAST), OUTSIDE)
            .refuses("the greatest", house -> house.beads(12, GREATEST), OUTSIDE);
    }
}
