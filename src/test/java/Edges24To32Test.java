/** Promises 24 to 32: each sentence that names a boundary, just within it, just outside it, and what is refused. */
public final class Edges24To32Test {
    private static final int NONE = -6, UNKNOWN = -1, OUTSIDE = -2, STATE = -3, FULL = -4;
    private static final int LEAST = Integer.MIN_VALUE, GREATEST = Integer.MAX_VALUE;
    private static final long LOST = -1000000000000000000L;

    public static void main(String[] args) {
        promise24NotThere();
        promise24Breaths();
        promise24Full();
        promise25Forget();
        promise26Law();
        promise26What();
        promise26NoSights();
        promise26SkippedOneToNine();
        promise26NoughtAtLeast();
        promise26OneAlone();
        promise26WhoDoesNotBow();
        promise26BreathsOfASight();
        promise27Law();
        promise27Breaths();
        promise27What();
        promise27NoWorlds();
        promise27NobodyAwake();
        promise27TheLeast();
        promise28Breaths();
        promise28Tenths();
        promise28WhatAndPart();
        promise28NobodyAwake();
        promise28AtNought();
        promise28TheGreatest();
        promise29Seed();
        promise29LeftOver();
        promise29Acts();
        promise29What();
        promise29NobodyThere();
        promise29IfThatCanBe();
        promise29AtNought();
        promise30Image();
        promise30AllButThePad();
        promise31Restore();
        promise31WasNotKept();
        promise32Told();
        promise32Paces();
        Due.close();
    }

    private static void promise24NotThere() {
        Sentence seen = Sentence.of(24, "UNKNOWN: he is not there", Houses::rich)
            .answers("seen(0, ..)", house -> house.seen(0, 5, true), 4)
            .answers("seen(7, ..)", house -> house.seen(7, 5, false), 4)
            .answers("seen(1, ..), who sleeps", house -> house.seen(1, 5, false), 4)
            .refuses("seen(3, ..), who left", house -> house.seen(3, 5, true), UNKNOWN)
            .refuses("seen(6, ..)", house -> house.seen(6, 5, false), UNKNOWN);
        for (int monk : Houses.NO_MONKS) {
            seen.refuses("seen(" + monk + ", ..)", house -> house.seen(monk, 5, true), UNKNOWN);
        }
    }

    private static void promise24Breaths() {
        Sentence.of(24, "OUTSIDE: breaths 0 to 99", Houses::rich)
            .answers("breaths 0", house -> house.seen(0, 0, true), 4)
            .answers("breaths 99", house -> house.seen(0, 99, true), 4)
            .refuses("breaths -1", house -> house.seen(0, -1, true), OUTSIDE)
            .refuses("breaths 100", house -> house.seen(0, 100, true), OUTSIDE)
            .refuses("breaths -1, did not bow", house -> house.seen(0, -1, false), OUTSIDE)
            .refuses("breaths 100, did not bow", house -> house.seen(0, 100, false), OUTSIDE)
            .refuses("the least breaths", house -> house.seen(0, LEAST, false), OUTSIDE)
            .refuses("the greatest breaths", house -> house.seen(0, GREATEST, false), OUTSIDE);
    }

    private static void promise24Full() {
        Sentence.of(24, "SIGHTS, 8 at most; FULL", Houses::fullSights)
            .answers("8 are there", house -> house.told(5), 8)
            .refuses("a ninth", house -> house.seen(0, 5, true), FULL)
            .refuses("a ninth, the same as one", house -> house.seen(0, 0, true), FULL)
            .refuses("a ninth, behind 99", house -> house.seen(1, 99, false), FULL)
            .answers("behind forget()", house -> house.forget() + house.seen(0, 0, true), 9);
        Sentence.of(24, "A SIGHT more: how many", () -> Houses.of(5, 1))
            .answers("the first", house -> house.seen(0, 0, true), 1)
            .answers("the same twice is two", house -> house.seen(0, 0, true) + house.seen(0, 0, true), 3)
            .answers("the eighth", house -> {
                for (int i = 0; i < 7; i++) {
                    house.seen(0, i, false);
                }
                return house.seen(0, 7, false);
            }, 8);
    }

    private static void promise25Forget() {
        Sentence.of(25, "SIGHTS go: how many there were", SilenceCount::new)
            .answers("none", house -> house.forget(), 0);
        Sentence.of(25, "SIGHTS go: how many there were", Houses::fullSights)
            .answers("eight", house -> house.forget(), 8)
            .answers("eight, then none", house -> house.forget() + house.forget() + house.told(5), 8)
            .answers("all worlds again", house -> house.forget() + house.skips(0, 0), 8 + 19);
        Sentence.of(25, "SIGHTS go", Houses::rich)
            .answers("the PAD stays", house -> house.forget() * 0 + house.told(0), 5)
            .answers("the house stays", house -> house.forget() * 0 + house.state(0, 0), 100);
    }

    private static void promise26Law() {
        Sentence skips = Sentence.of(26, "by a LAW (0 to 4); OUTSIDE", () -> Houses.of(5, 1));
        for (int what = 0; what < 3; what++) {
            int w = what;
            skips.answers("LAW 0, what " + w, house -> house.skips(0, w), w == 0 ? 10 : 1)
                .answers("LAW 4, what " + w, house -> house.skips(4, w), w == 0 ? 10 : 1);
        }
        Sentence.of(26, "by a LAW (0 to 4); OUTSIDE", Houses::rich)
            .refuses("LAW -1", house -> house.skips(-1, 0), OUTSIDE)
            .refuses("LAW 5", house -> house.skips(5, 0), OUTSIDE)
            .refuses("the least LAW", house -> house.skips(LEAST, 0), OUTSIDE)
            .refuses("the greatest LAW", house -> house.skips(GREATEST, 0), OUTSIDE);
    }

    private static void promise26What() {
        Sentence.of(26, "how many (what = 0), MONKS (1), whether nobody (2). OUTSIDE", Houses::rich)
            .refuses("what = -1", house -> house.skips(0, -1), OUTSIDE)
            .refuses("what = 3", house -> house.skips(0, 3), OUTSIDE)
            .refuses("the least", house -> house.skips(0, LEAST), OUTSIDE)
            .refuses("the greatest", house -> house.skips(0, GREATEST), OUTSIDE);
    }

    private static void worlds(Sentence of, String call, int law, int many, int monks, int nobody) {
        of.answers(call + ", how many", house -> house.skips(law, 0), many)
            .answers(call + ", MONKS", house -> house.skips(law, 1), monks)
            .answers(call + ", whether nobody", house -> house.skips(law, 2), nobody);
    }

    private static void promise26NoSights() {
        for (int law = 0; law < 5; law++) {
            worlds(Sentence.of(26, "worlds, no SIGHTS", SilenceCount::new), "nobody there", law, 1, 0, 1);
            worlds(Sentence.of(26, "worlds, no SIGHTS", Houses::asleep), "only sleepers", law, 1, 0, 1);
            worlds(Sentence.of(26, "worlds, no SIGHTS", () -> Houses.of(0, 1)), "one at 0", law, 10, 1, 1);
            worlds(Sentence.of(26, "worlds, no SIGHTS",
                () -> Houses.eightAt(9)), "all of eight", law, 73, 255, 1);
        }
    }

    private static Sentence seenNow(String words, boolean bowed, int... countsAndPaces) {
        return Sentence.of(26, words, () -> {
            SilenceCount house = Houses.of(countsAndPaces);
            house.seen(0, 0, bowed);
            return house;
        });
    }

    private static void promise26SkippedOneToNine() {
        String words = "one alone skipped v (1 to 9), or nobody";
        worlds(seenNow(words, true, 64, 1), "v 0 to a power", 4, 1, 0, 1);
        worlds(seenNow(words, true, 65, 1), "v 1 to a power", 4, 1, 1, 0);
        worlds(seenNow(words, true, 73, 1), "v 9 to a power", 4, 1, 1, 0);
        worlds(seenNow(words, true, 74, 1), "v 10 to a power", 4, 0, 0, 0);
        worlds(seenNow(words, true, 64, 1, 5, 1), "another one's skip", 4, 10, 2, 1);
        seenNow(words, true, 64, 1, 5, 1)
            .answers("MONKS, asked again by another LAW", house -> house.skips(4, 1) * 0 + house.skips(0, 1), 1);
    }

    private static void promise26NoughtAtLeast() {
        String words = "he has v less to count, 0 at least";
        worlds(seenNow(words, true, 9, 1), "9 by a square", 1, 3, 1, 1);
        worlds(seenNow(words, true, 1, 1), "1 by a square", 1, 1, 0, 1);
        worlds(seenNow(words, false, 1, 1), "1, no square", 1, 9, 1, 0);
        worlds(seenNow(words, true, 0, 1), "0 by a square", 1, 0, 0, 0);
        worlds(seenNow(words, false, 0, 1), "0, no square", 1, 10, 1, 1);
        worlds(seenNow(words, true, 10, 1), "10 by 1 (skipped 9), 4 (6), 9 (1)", 1, 3, 1, 0);
    }

    private static void promise26OneAlone() {
        Sentence both = Sentence.of(26, "worlds in which one alone skipped", () -> {
            SilenceCount house = Houses.of(65, 1, 65, 1);
            house.seen(0, 0, true);
            house.seen(1, 0, true);
            return house;
        });
        worlds(both, "both would have had to", 4, 0, 0, 0);
        Sentence last = Sentence.of(26, "MONKS who skipped in some, as bits", () -> {
            SilenceCount house = new SilenceCount();
            house.monk(7, 65, 1);
            house.monk(0, 64, 1);
            house.seen(7, 0, true);
            house.seen(0, 0, true);
            return house;
        });
        worlds(last, "MONK 7", 4, 1, 128, 0);
    }

    private static void promise26WhoDoesNotBow() {
        Sentence asleep = Sentence.of(26, "who sleeps does not", () -> {
            SilenceCount house = Houses.behind("AB", 64, 1, 64, 1);
            house.seen(0, 0, false);
            return house;
        });
        worlds(asleep, "seen not to bow", 4, 10, 2, 1);
        asleep.answers("seen to bow", house -> house.seen(0, 0, true) * 0 + house.skips(4, 0), 0);
        Sentence left = Sentence.of(26, "who is not there does not", () -> {
            SilenceCount house = Houses.of(64, 1, 64, 1);
            house.seen(0, 0, true);
            house.leave(0);
            return house;
        });
        worlds(left, "seen to bow, and left", 4, 0, 0, 0);
        left.answers("all left", house -> house.leave(1) + house.skips(4, 0), 0);
        Sentence atNought = Sentence.of(26, "who is at 0 does not", () -> {
            SilenceCount house = Houses.of(12, 4);
            house.seen(0, 3, false);
            return house;
        });
        worlds(atNought, "at 0 behind 3", 1, 10, 1, 1);
        worlds(Sentence.of(26, "who is at 0 does not", () -> {
            SilenceCount house = Houses.of(12, 4);
            house.seen(0, 2, true);
            return house;
        }), "at 4 behind 2, or skipped to 1", 1, 2, 1, 1);
    }

    private static void promise26BreathsOfASight() {
        worlds(Sentence.of(26, "behind so many breaths (0 to 99)", () -> {
            SilenceCount house = Houses.of(99 * 9 + 64, 9);
            house.seen(0, 99, true);
            return house;
        }), "99 by 9", 4, 1, 0, 1);
        worlds(Sentence.of(26, "behind so many breaths (0 to 99)", () -> {
            SilenceCount house = Houses.of(99 + 73, 1);
            house.seen(0, 99, true);
            return house;
        }), "99 by 1 and 9 skipped", 4, 1, 1, 0);
        worlds(Sentence.of(26, "nothing else happening (the PAD is not DONE)", () -> {
            SilenceCount house = Houses.saying("..", 66, 1);
            house.seen(0, 2, true);
            return house;
        }), "behind two", 4, 1, 0, 1);
        worlds(Sentence.of(26, "all SIGHTS (8) are so", () -> {
            SilenceCount house = Houses.of(72, 1);
            for (int i = 0; i < 7; i++) {
                house.seen(0, i, false);
            }
            house.seen(0, 7, true);
            return house;
        }), "the eighth decides", 4, 1, 1, 0);
    }

    private static void promise27Law() {
        Sentence.of(27, "by a LAW (0 to 4); OUTSIDE", Houses::rich)
            .refuses("LAW -1", house -> house.ask(-1, 0, 0), OUTSIDE)
            .refuses("LAW 5", house -> house.ask(5, 0, 0), OUTSIDE)
            .refuses("the least LAW", house -> house.ask(LEAST, 0, 0), OUTSIDE)
            .refuses("the greatest LAW", house -> house.ask(GREATEST, 0, 0), OUTSIDE);
        // 9 down to 0: primes 7 5 3 2; squares 9 4 1; alike from behind and by digits' sum 9 to 1; powers 8 4 2 1.
        int[] left = {6, 7, 9, 9, 6};
        Sentence one = Sentence.of(27, "so that fewest worlds are left at the most", () -> Houses.of(9, 1));
        for (int law = 0; law < 5; law++) {
            int by = law;
            one.answers("LAW " + law + ", the MONK", house -> house.ask(by, 0, 0), 0)
                .answers("LAW " + law + ", how many", house -> house.ask(by, 0, 1), left[by]);
        }
    }

    private static void promise27Breaths() {
        Sentence.of(27, "b breaths (0 to 99); OUTSIDE", () -> Houses.of(99 + 64, 1))
            .answers("b 0, the MONK", house -> house.ask(4, 0, 0), 0)
            .answers("b 0, how many", house -> house.ask(4, 0, 1), 10)
            .answers("b 99, the MONK", house -> house.ask(4, 99, 0), 0)
            .answers("b 99, how many", house -> house.ask(4, 99, 1), 9)
            .answers("b 98, how many", house -> house.ask(4, 98, 1), 9)
            .answers("b 90, 64 by 9 skipped", house -> house.ask(4, 90, 1), 9)
            .answers("b 89, 65 at least", house -> house.ask(4, 89, 1), 10);
        Sentence.of(27, "b breaths (0 to 99); OUTSIDE", Houses::rich)
            .refuses("b -1", house -> house.ask(0, -1, 0), OUTSIDE)
            .refuses("b 100", house -> house.ask(0, 100, 0), OUTSIDE)
            .refuses("b -1, how many", house -> house.ask(0, -1, 1), OUTSIDE)
            .refuses("b 100, how many", house -> house.ask(0, 100, 1), OUTSIDE)
            .refuses("the least b", house -> house.ask(0, LEAST, 0), OUTSIDE)
            .refuses("the greatest b", house -> house.ask(0, GREATEST, 0), OUTSIDE);
    }

    private static void promise27What() {
        Sentence.of(27, "the MONK (what = 0), how many (1). OUTSIDE", Houses::rich)
            .refuses("what = -1", house -> house.ask(0, 0, -1), OUTSIDE)
            .refuses("what = 2", house -> house.ask(0, 0, 2), OUTSIDE)
            .refuses("the least", house -> house.ask(0, 0, LEAST), OUTSIDE)
            .refuses("the greatest", house -> house.ask(0, 0, GREATEST), OUTSIDE);
        Sentence.of(27, "OUTSIDE", SilenceCount::new)
            .refuses("nobody there", house -> house.ask(0, 0, 2), OUTSIDE);
    }

    private static void promise27NoWorlds() {
        Sentence.of(27, "NONE: there are no worlds", () -> {
            SilenceCount house = Houses.of(74, 1);
            house.seen(0, 0, true);
            return house;
        }).answers("the MONK", house -> house.ask(4, 0, 0), NONE)
            .answers("how many", house -> house.ask(4, 0, 1), NONE);
        Sentence.of(27, "NONE: there are no worlds (but one)", () -> {
            SilenceCount house = Houses.of(73, 1);
            house.seen(0, 0, true);
            return house;
        }).answers("the MONK", house -> house.ask(4, 0, 0), 0)
            .answers("how many", house -> house.ask(4, 0, 1), 1);
    }

    private static void promise27NobodyAwake() {
        Sentence.of(27, "NONE: or nobody is AWAKE", SilenceCount::new)
            .answers("nobody there, the MONK", house -> house.ask(0, 0, 0), NONE)
            .answers("nobody there, how many", house -> house.ask(0, 0, 1), NONE);
        Sentence.of(27, "NONE: or nobody is AWAKE", Houses::asleep)
            .answers("only sleepers, the MONK", house -> house.ask(0, 0, 0), NONE)
            .answers("only sleepers, how many", house -> house.ask(0, 0, 1), NONE);
    }

    private static void promise27TheLeast() {
        Sentence.of(27, "the MONK: the least", () -> Houses.of(0, 1, 0, 1, 0, 1))
            .answers("nobody tells anything", house -> house.ask(1, 0, 0), 0)
            .answers("how many", house -> house.ask(1, 0, 1), 28);
        Sentence.of(27, "the MONK: the least", () -> Houses.of(0, 1, 9, 1, 9, 1))
            .answers("of two who tell as much", house -> house.ask(1, 0, 0), 1)
            // B bows at 9: so he does in 19 worlds of others' and nobody's skips, and at 4 and 1.
            .answers("how many", house -> house.ask(1, 0, 1), 21);
        Sentence.of(27, "the MONK (AWAKE)", () -> Houses.behind("AC", 9, 1, 0, 1, 9, 1))
            .answers("who sleeps is not asked", house -> house.ask(1, 0, 0), 2);
        Sentence.of(27, "the MONK", () -> {
            SilenceCount house = new SilenceCount();
            house.monk(7, 9, 1);
            return house;
        }).answers("MONK 7", house -> house.ask(1, 0, 0), 7);
    }

    private static void beesAre(Sentence of, String call, int m, int t, long[] due) {
        of.answers(call + ", the mean, upper", house -> house.bees(m, t, 0, 0), due[0])
            .answers(call + ", the mean, lower", house -> house.bees(m, t, 0, 1), due[1])
            .answers(call + ", at 0, upper", house -> house.bees(m, t, 1, 0), due[2])
            .answers(call + ", at 0, lower", house -> house.bees(m, t, 1, 1), due[3]);
    }

    private static void promise28Breaths() {
        Sentence bees = Sentence.of(28, "m breaths (0 to 10); OUTSIDE", () -> Houses.of(5, 1));
        beesAre(bees, "m 0", 0, 5, new long[] {5, 1, 0, 1});
        beesAre(bees, "m 1", 1, 0, new long[] {4, 1, 0, 1});
        beesAre(bees, "m 4", 4, 0, new long[] {1, 1, 0, 1});
        beesAre(bees, "m 5", 5, 0, new long[] {0, 1, 1, 1});
        beesAre(bees, "m 10", 10, 0, new long[] {0, 1, 1, 1});
        Sentence.of(28, "m breaths (0 to 10); OUTSIDE", Houses::rich)
            .refuses("m -1", house -> house.bees(-1, 0, 0, 0), LOST + OUTSIDE)
            .refuses("m 11", house -> house.bees(11, 0, 0, 0), LOST + OUTSIDE)
            .refuses("the least m", house -> house.bees(LEAST, 0, 0, 0), LOST + OUTSIDE)
            .refuses("the greatest m", house -> house.bees(GREATEST, 0, 0, 0), LOST + OUTSIDE);
    }

    private static void promise28Tenths() {
        Sentence bees = Sentence.of(28, "a bee with t tenths (0 to 10); OUTSIDE", () -> Houses.behindIn(20, "", 1, 1));
        beesAre(bees, "t 0", 1, 0, new long[] {0, 1, 1, 1});
        beesAre(bees, "t 1", 1, 1, new long[] {2, 1, 9, 10});
        beesAre(bees, "t 9", 1, 9, new long[] {18, 1, 1, 10});
        beesAre(bees, "t 10", 1, 10, new long[] {20, 1, 0, 1});
        beesAre(bees, "t 10, m 10", 10, 10, new long[] {20, 1, 0, 1});
        Sentence.of(28, "a bee with t tenths (0 to 10); OUTSIDE", Houses::rich)
            .refuses("t -1", house -> house.bees(1, -1, 0, 0), LOST + OUTSIDE)
            .refuses("t 11", house -> house.bees(1, 11, 0, 0), LOST + OUTSIDE)
            .refuses("t -1, m 0", house -> house.bees(0, -1, 0, 0), LOST + OUTSIDE)
            .refuses("the least t", house -> house.bees(1, LEAST, 0, 0), LOST + OUTSIDE)
            .refuses("the greatest t", house -> house.bees(1, GREATEST, 0, 0), LOST + OUTSIDE);
    }

    private static void promise28WhatAndPart() {
        Sentence.of(28, "the mean (what = 0), that he is at 0 (1). OUTSIDE", Houses::rich)
            .refuses("what = -1", house -> house.bees(1, 1, -1, 0), LOST + OUTSIDE)
            .refuses("what = 2", house -> house.bees(1, 1, 2, 0), LOST + OUTSIDE)
            .refuses("the least", house -> house.bees(1, 1, LEAST, 0), LOST + OUTSIDE)
            .refuses("the greatest", house -> house.bees(1, 1, GREATEST, 0), LOST + OUTSIDE);
        Sentence.of(28, "by part: 0 the upper, 1 the lower number. OUTSIDE", Houses::rich)
            .refuses("part -1", house -> house.bees(1, 1, 0, -1), LOST + OUTSIDE)
            .refuses("part 2", house -> house.bees(1, 1, 0, 2), LOST + OUTSIDE)
            .refuses("the least", house -> house.bees(1, 1, 1, LEAST), LOST + OUTSIDE)
            .refuses("the greatest", house -> house.bees(1, 1, 1, GREATEST), LOST + OUTSIDE);
    }

    private static void promise28NobodyAwake() {
        Sentence.of(28, "STATE: nobody is AWAKE", SilenceCount::new)
            .refuses("nobody there", house -> house.bees(1, 1, 0, 0), LOST + STATE)
            .refuses("nobody there, lower", house -> house.bees(1, 1, 0, 1), LOST + STATE)
            .refuses("nobody there, m 0", house -> house.bees(0, 0, 1, 0), LOST + STATE);
        Sentence.of(28, "STATE: nobody is AWAKE", Houses::asleepAndRich)
            .refuses("only sleepers", house -> house.bees(1, 1, 0, 0), LOST + STATE)
            .refuses("only sleepers, that he is at 0", house -> house.bees(10, 10, 1, 1), LOST + STATE)
            .answers("one awake", house -> house.monk(7, 3, 1) * 0 + house.bees(1, 0, 0, 0), 2);
    }

    private static void promise28AtNought() {
        Sentence atNought = Sentence.of(28, "that he is at 0 then", () -> Houses.behindIn(1, "", 0, 9));
        beesAre(atNought, "at 0 now, m 0", 0, 10, new long[] {0, 1, 1, 1});
        beesAre(atNought, "in a HOUSE of 1, half", 1, 5, new long[] {1, 2, 1, 2});
        beesAre(atNought, "in a HOUSE of 1, no bee", 1, 0, new long[] {0, 1, 1, 1});
        beesAre(atNought, "in a HOUSE of 1, ten bees", 10, 10, new long[] {1, 1, 0, 1});
        beesAre(atNought, "in a HOUSE of 1, the last decides", 10, 3, new long[] {3, 10, 7, 10});
        Sentence ahead = Sentence.of(28, "the MONK who is AHEAD now is alone in the house",
            () -> Houses.behind("AC", 0, 1, 4, 3, 8, 9, 4, 1));
        beesAre(ahead, "B, the least of two", 1, 0, new long[] {1, 1, 0, 1});
        beesAre(ahead, "B, to 0", 2, 0, new long[] {0, 1, 1, 1});
    }

    private static void promise28TheGreatest() {
        Sentence most = Sentence.of(28, "his COUNT in the mean, exactly", () -> Houses.of(1000000, 1));
        beesAre(most, "m 10, t 0", 10, 0, new long[] {999990, 1, 0, 1});
        beesAre(most, "m 10, t 10", 10, 10, new long[] {1000000, 1, 0, 1});
        // 1000000 less 9/10 + 9^2/10^2 + ... + 9^10/10^10, the breaths since the last bee in the mean.
        long less = 0;
        long power = 1;
        for (int i = 1; i <= 10; i++) {
            power *= 9;
            less = less * 10 + power;
        }
        beesAre(most, "m 10, t 1", 10, 1, new long[] {10000000000000000L - less, 10000000000L, 0, 1});
    }

    private static void promise29Seed() {
        Sentence.of(29, "a seed (0 to 9999); OUTSIDE", Houses::rich)
            .answers("seed 0: 74, B (asleep) coughs", house -> house.year(0, 1, 0), 100 + 90 + 100 + 65)
            // 75 * 9999 + 74 = 749999 leaves 29092 by 65537, which leaves 4: MONK 4 goes to sleep, who is not there.
            .answers("seed 9999", house -> house.year(9999, 1, 0), 355)
            .refuses("seed -1", house -> house.year(-1, 1, 0), OUTSIDE)
            .refuses("seed 10000", house -> house.year(10000, 1, 0), OUTSIDE)
            .refuses("the least seed", house -> house.year(LEAST, 1, 0), OUTSIDE)
            .refuses("the greatest seed", house -> house.year(GREATEST, 1, 0), OUTSIDE);
    }

    private static void promise29LeftOver() {
        Sentence.of(29, "(75 x and 74) left over by 65537", () -> Houses.of(100, 1, 200, 1))
            // 65474 is below 65537 and leaves 2 by 8, 8184 leaves 0: A coughs.
            .answers("seed 872, COUNTS", house -> house.year(872, 1, 0), 303)
            .answers("seed 872, AWAKE", house -> house.year(872, 1, 1), 2)
            // 65549 leaves 12, that is 4 by 8, 1 by 8: B goes to sleep, his count is handed over to A.
            .answers("seed 873, COUNTS", house -> house.year(873, 1, 0), 350)
            .answers("seed 873, AWAKE", house -> house.year(873, 1, 1), 1);
    }

    private static void promise29Acts() {
        Sentence.of(29, "m ACTS (1 to 99); OUTSIDE", () -> Houses.of(100, 1, 100, 1))
            .answers("m 1: 74, B coughs", house -> house.year(0, 1, 0), 203)
            .answers("m 2: 5624, a bell", house -> house.year(0, 2, 0), 205)
            .answers("m 99, as drawn", house -> house.year(0, 99, 1), drawnBy(0, 99, 1))
            .answers("m 99, COUNTS", house -> house.year(0, 99, 0), drawnBy(0, 99, 0))
            .answers("m 98, COUNTS", house -> house.year(0, 98, 0), drawnBy(0, 98, 0))
            .refuses("m 0", house -> house.year(0, 0, 0), OUTSIDE)
            .refuses("m 100", house -> house.year(0, 100, 0), OUTSIDE)
            .refuses("m -1", house -> house.year(0, -1, 0), OUTSIDE)
            .refuses("the least m", house -> house.year(0, LEAST, 0), OUTSIDE)
            .refuses("the greatest m", house -> house.year(0, GREATEST, 0), OUTSIDE);
    }

    private static int drawnBy(int seed, int m, int what) {
        PlainModel model = new PlainModel();
        model.monk(0, 100, 1);
        model.monk(1, 100, 1);
        return model.year(seed, m, what);
    }

    private static void promise29What() {
        Sentence.of(29, "COUNTS (what = 0), AWAKE (1), ACTS (2). OUTSIDE", Houses::rich)
            .answers("what = 1", house -> house.year(0, 1, 1), 3)
            .answers("what = 2", house -> house.year(0, 1, 2), 0)
            .refuses("what = -1", house -> house.year(0, 1, -1), OUTSIDE)
            .refuses("what = 3", house -> house.year(0, 1, 3), OUTSIDE)
            .refuses("the least", house -> house.year(0, 1, LEAST), OUTSIDE)
            .refuses("the greatest", house -> house.year(0, 1, GREATEST), OUTSIDE);
    }

    private static void promise29NobodyThere() {
        for (int what = 0; what < 3; what++) {
            int w = what;
            Sentence.of(29, "COUNTS of all who are there, together", SilenceCount::new)
                .answers("nobody there, what " + w, house -> house.year(1234, 99, w), 0);
        }
        Sentence.of(29, "COUNTS of all who are there (also who sleeps), together", Houses::asleep)
            .answers("74 is B's cough, who sleeps", house -> house.year(0, 1, 0), 20)
            .answers("how many are AWAKE", house -> house.year(0, 1, 1), 0);
        Sentence.of(29, "COUNTS of all who are there, together",
            () -> Houses.eightAt(1000000))
            .answers("the most", house -> house.year(0, 1, 0), 8000000)
            .answers("how many are AWAKE", house -> house.year(0, 1, 1), 8);
        Sentence.of(29, "Nothing is DONE in fact", Houses::rich)
            .answers("COUNTS", house -> house.year(6, 99, 0) * 0 + house.state(0, 0), 100)
            .answers("AWAKE", house -> house.year(6, 99, 0) * 0 + house.told(2), 1 + 4 + 128)
            .answers("the PAD", house -> house.year(6, 99, 0) * 0 + house.told(0), 5);
    }

    /** The first seed whose first draw is of this kind, with these MONKS (-1: any). */
    private static int seedOf(int kind, int monk, int other) {
        for (int seed = 0; seed <= 9999; seed++) {
            int x = (75 * seed + 74) % 65537;
            if (x % 8 == kind && (monk < 0 || x / 8 % 8 == monk) && (other < 0 || x / 64 % 8 == other)) {
                return seed;
            }
        }
        throw new IllegalStateException("no such seed");
    }

    private static void promise29IfThatCanBe() {
        // C sleeps at 30 and handed over to A, who is at 20 then, as B is.
        Sentence year = Sentence.of(29, "each if that can be", () -> Houses.behindIn(40, "CA", 10, 1, 20, 1, 30, 1));
        year.answers("as it is", house -> house.state(0, 0) + house.state(1, 0) + house.state(2, 0), 20 + 20 + 30);
        int[][] draws = {{0, -1, -1, 72, 2}, {1, -1, -1, 90, 2},
            {2, 0, -1, 73, 2}, {2, 2, -1, 70, 2}, {2, 3, -1, 70, 2},
            {3, 0, -1, 70, 2}, {3, 2, -1, 70, 2}, {3, 7, -1, 70, 2},
            {4, 0, 1, 70, 1}, {4, 0, 0, 70, 2}, {4, 0, 2, 70, 2}, {4, 2, 0, 70, 2}, {4, 0, 3, 70, 2}, {4, 3, 0, 70, 2},
            {5, 0, -1, 70, 2}, {5, 2, -1, 70, 3}, {5, 3, -1, 70, 2},
            {6, -1, -1, 50, 2}, {7, -1, -1, 50, 2}};
        for (int[] d : draws) {
            int seed = seedOf(d[0], d[1], d[2]);
            String call = "kind " + d[0] + " of " + d[1] + ", " + d[2];
            year.answers(call + ", COUNTS", house -> house.year(seed, 1, 0), d[3])
                .answers(call + ", AWAKE", house -> house.year(seed, 1, 1), d[4]);
        }
        Sentence.of(29, "left over by 8", () -> Houses.eightAt(50))
            .answers("MONK 7 coughs", house -> house.leave(7) + house.year(seedOf(2, 7, -1), 1, 0), 7 + 350)
            .answers("to MONK 7", house -> house.leave(7) + house.year(seedOf(4, 0, 7), 1, 1), 7 + 7)
            .answers("to MONK 7, who is there", house -> house.year(seedOf(4, 0, 7), 1, 1), 7)
            .answers("by MONK 7", house -> house.year(seedOf(4, 7, 0), 1, 1), 7);
        Sentence asleep = Sentence.of(29, "each if that can be (nobody is AWAKE)", Houses::asleep);
        for (int kind = 0; kind < 8; kind++) {
            int seed = seedOf(kind, 0, -1);
            asleep.answers("kind " + kind, house -> house.year(seed, 1, 0), 20)
                .answers("kind " + kind + ", AWAKE", house -> house.year(seed, 1, 1), seed == seedOf(5, 0, -1) ? 1 : 0);
        }
    }

    private static void promise29AtNought() {
        int tenBreaths = seedOf(6, -1, -1);
        String words = "behind how many ACTS somebody is at 0 who was not ahead of it";
        Sentence.of(29, words, () -> Houses.of(10, 1))
            .answers("10 by 1", house -> house.year(tenBreaths, 1, 2), 1);
        Sentence.of(29, words, () -> Houses.of(11, 1))
            .answers("11 by 1", house -> house.year(tenBreaths, 1, 2), 0);
        Sentence.of(29, words, () -> Houses.of(0, 1))
            .answers("at 0 already", house -> house.year(tenBreaths, 1, 2), 0);
        Sentence.of(29, words, () -> Houses.of(0, 1, 90, 9))
            .answers("one at 0 already, one then", house -> house.year(tenBreaths, 1, 2), 1);
        Sentence.of(29, words, () -> Houses.of(10, 1, 90, 9))
            .answers("two at once: one ACT", house -> house.year(tenBreaths, 1, 2), 1)
            .answers("asked again", house -> house.year(tenBreaths, 1, 2) * 0 + house.year(tenBreaths, 1, 2), 1);
        Sentence.of(29, words, () -> Houses.of(0, 1, 1, 1))
            .answers("the middle of 0 and 1", house -> house.year(seedOf(4, 0, 1), 1, 2), 1)
            .answers("to 0 by an elbow", house -> house.year(seedOf(3, 1, -1), 1, 2), 1)
            .answers("up from 0 by a bell", house -> house.year(seedOf(0, -1, -1), 1, 2), 0);
    }

    private static void promise30Image() {
        Sentence.of(30, "an IMAGE (0, 1): 1. OUTSIDE", Houses::rich)
            .answers("image(0)", house -> house.image(0), 1)
            .answers("image(1)", house -> house.image(1), 1)
            .answers("image(1), twice", house -> house.image(1) + house.image(1), 2)
            .refuses("image(-1)", house -> house.image(-1), OUTSIDE)
            .refuses("image(2)", house -> house.image(2), OUTSIDE)
            .refuses("the least", house -> house.image(LEAST), OUTSIDE)
            .refuses("the greatest", house -> house.image(GREATEST), OUTSIDE);
    }

    private static void promise30AllButThePad() {
        Sentence.of(30, "All but the PAD is kept", () -> {
            SilenceCount house = Houses.rich();
            house.image(1);
            house.wipe();
            house.forget();
            house.set(1, 1);
            house.set(0, 400);
            house.monk(1, 0, 9);
            house.leave(7);
            house.restore(1);
            return house;
        }).answers("signs are not", house -> house.told(0), 0)
            .answers("MONKS", house -> house.told(1), 1 + 2 + 4 + 128)
            .answers("AWAKE", house -> house.told(2), 1 + 4 + 128)
            .answers("HOUSE", house -> house.told(3), 500)
            .answers("SHARP", house -> house.told(4), 7)
            .answers("SIGHTS", house -> house.told(5), 3)
            .answers("COUNT", house -> house.state(1, 0), 90)
            .answers("PACE", house -> house.told(11), 2);
        Sentence.of(30, "All but the PAD is kept (nobody is there)", () -> {
            SilenceCount house = new SilenceCount();
            house.image(0);
            house.monk(3, 3, 3);
            house.seen(3, 3, true);
            Told.say(house, ".");
            house.restore(0);
            return house;
        }).answers("nobody", house -> house.told(1), 0)
            .answers("no SIGHTS", house -> house.told(5), 0)
            .answers("the PAD stays", house -> house.told(0), 1);
        Sentence.of(30, "All is kept (8 SIGHTS)", () -> {
            SilenceCount house = Houses.fullSights();
            house.image(0);
            house.forget();
            for (int i = 0; i < 8; i++) {
                house.seen(1, 0, false);
            }
            house.restore(0);
            return house;
        }).answers("all of them", house -> house.told(5), 8)
            .refuses("a ninth", house -> house.seen(0, 0, false), FULL)
            .answers("the worlds that they leave", house -> house.skips(4, 0), 1)
            .answers("nobody's skip", house -> house.skips(4, 2), 1);
        Sentence.of(30, "All is kept (each of the SIGHTS)", () -> {
            SilenceCount house = Houses.of(64, 1, 66, 1);
            house.seen(0, 0, true);
            house.seen(1, 2, true);
            house.image(1);
            house.forget();
            house.seen(1, 0, false);
            house.seen(1, 0, false);
            house.restore(1);
            return house;
        }).answers("the worlds that they leave", house -> house.skips(4, 0), 1)
            .answers("by another LAW", house -> house.skips(0, 0), 0);
    }

    private static void promise31Restore() {
        Sentence.of(31, "as it was when it was kept: 1. OUTSIDE", Houses::rich)
            .answers("restore(0)", house -> house.restore(0), 1)
            .answers("MONK 3 is there again", house -> house.restore(0) * 0 + house.state(3, 0), 7)
            .answers("MONK 7 is not", house -> house.restore(0) * 0 + house.state(7, 0), UNKNOWN)
            .answers("HOUSE", house -> house.restore(0) * 0 + house.told(3), 1000000)
            .answers("the PAD stays", house -> house.restore(0) * 0 + house.told(0), 5)
            .answers("twice", house -> house.restore(0) + house.leave(0) * 0 + house.restore(0), 2)
            .answers("one who left since", house -> house.leave(0) * 0 + house.restore(0) + house.state(0, 0), 101)
            .refuses("restore(-1)", house -> house.restore(-1), OUTSIDE)
            .refuses("restore(2)", house -> house.restore(2), OUTSIDE)
            .refuses("the least", house -> house.restore(LEAST), OUTSIDE)
            .refuses("the greatest", house -> house.restore(GREATEST), OUTSIDE);
    }

    private static void promise31WasNotKept() {
        Sentence.of(31, "STATE: it was not", Houses::rich)
            .refuses("restore(1), the other one was", house -> house.restore(1), STATE)
            .answers("it is now", house -> house.image(1) + house.restore(1), 2);
        Sentence.of(31, "STATE: it was not", SilenceCount::new)
            .refuses("restore(0)", house -> house.restore(0), STATE)
            .refuses("restore(1)", house -> house.restore(1), STATE);
        Sentence.of(31, "STATE: it was not (a refused image keeps nothing)", () -> {
            SilenceCount house = Houses.of(5, 5);
            house.image(2);
            house.image(-1);
            return house;
        }).refuses("restore(0)", house -> house.restore(0), STATE)
            .refuses("restore(1)", house -> house.restore(1), STATE);
    }

    private static void promise32Told() {
        Sentence told = Sentence.of(32, "0 signs to 5 SIGHTS. OUTSIDE", Houses::rich)
            .answers("0", house -> house.told(0), 5)
            .answers("1", house -> house.told(1), 1 + 2 + 4 + 128)
            .answers("2", house -> house.told(2), 1 + 4 + 128)
            .answers("3", house -> house.told(3), 500)
            .answers("4", house -> house.told(4), 7)
            .answers("5", house -> house.told(5), 3);
        for (int what : new int[] {-1, 6, 7, 8, 9, 18, 19, 41, 42, 49, LEAST, LEAST + 9, LEAST + 10, LEAST + 17,
            GREATEST}) {
            told.refuses("told(" + what + ")", house -> house.told(what), OUTSIDE);
        }
        Sentence.of(32, "0 signs", Houses::fullPad).answers("a full PAD", house -> house.told(0), 60);
        Sentence.of(32, "5 SIGHTS", Houses::fullSights).answers("eight", house -> house.told(5), 8);
    }

    private static void promise32Paces() {
        Sentence.of(32, "10 and a MONK who is there: his PACE. OUTSIDE", Houses::rich)
            .answers("MONK 0", house -> house.told(10), 3)
            .answers("MONK 1, who sleeps", house -> house.told(11), 2)
            .answers("MONK 7", house -> house.told(17), 5)
            .refuses("MONK 3, who left", house -> house.told(13), OUTSIDE)
            .refuses("MONK 6", house -> house.told(16), OUTSIDE)
            .refuses("MONK 8", house -> house.told(18), OUTSIDE);
        Sentence.of(32, "10 and a MONK who is there: his PACE", () -> Houses.of(0, 1, 0, 9))
            .answers("the least", house -> house.told(10), 1)
            .answers("the greatest", house -> house.told(11), 9);
    }
}
