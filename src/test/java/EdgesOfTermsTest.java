import java.util.function.Supplier;

/** "Terms": each sentence that names a boundary; of the calls' own ones, see the tests of their promises. */
public final class EdgesOfTermsTest {
    private static final int NONE = -6, UNKNOWN = -1, OUTSIDE = -2, STATE = -3, FULL = -4, NO = -5;
    private static final long LOST = -1000000000000000000L;

    public static void main(String[] args) {
        fiveHundredTwelveCalls();
        unknownGoesFirst();
        outsideGoesAheadOfNo();
        outsideGoesAheadOfState();
        outsideGoesAheadOfFull();
        outsideGoesAheadOfNone();
        fractionsInLowestTerms();
        setsOfMonks();
        monksNoneAtFirst();
        awakeAtFirst();
        houseAtFirst();
        breathToNought();
        breathOfSleepers();
        bellToHouse();
        bellOfSleepers();
        beeOfTheLeast();
        beeOfSeveral();
        beeAtTheEdges();
        tenBreaths();
        handOverCut();
        wokenAtWhatHeWasAt();
        coughToHouse();
        elbowHimselfAsWell();
        elbowOfSeveral();
        elbowOfSleepers();
        faultPlaces();
        reasonOne();
        reasonTwo();
        reasonThree();
        reasonFour();
        reasonFive();
        nobodyBowsAtNought();
        Due.close();
    }

    private static SilenceCount nobody() {
        return new SilenceCount();
    }

    private static void fiveHundredTwelveCalls() {
        Sentence.ofTerms("An object is used for at most 512 calls", () -> {
            SilenceCount house = Houses.of(100, 3);
            for (int call = 2; call < 512; call++) {
                Due.is("call " + call, house.say('.'), call <= 61 ? call - 1 : FULL);
            }
            return house;
        }).answers("the 512th, done()", house -> house.done(), 60);
    }

    private static void unknownGoesFirst() {
        Sentence.ofTerms("the first of these that fits: UNKNOWN, OUTSIDE", Houses::rich)
            .refuses("monk(8, -1, 0)", house -> house.monk(8, -1, 0), UNKNOWN)
            .refuses("monk(-1, 501, 10)", house -> house.monk(-1, 501, 10), UNKNOWN)
            .refuses("state(3, 2)", house -> house.state(3, 2), UNKNOWN)
            .refuses("behind(3, 2)", house -> house.behind(3, 2), UNKNOWN)
            .refuses("seen(3, 100, true)", house -> house.seen(3, 100, true), UNKNOWN);
        Sentence.ofTerms("the first of these that fits: UNKNOWN, NO", Houses::richWithFault)
            .refuses("behind(3, 0)", house -> house.behind(3, 0), UNKNOWN)
            .refuses("behind(8, 2)", house -> house.behind(8, 2), UNKNOWN);
        Sentence.ofTerms("the first of these that fits: UNKNOWN, NO", Houses::richThatCanNotBe)
            .refuses("behind(3, 0)", house -> house.behind(3, 0), UNKNOWN);
        Sentence.ofTerms("the first of these that fits: UNKNOWN, FULL", Houses::fullSights)
            .refuses("seen(2, 0, true)", house -> house.seen(2, 0, true), UNKNOWN)
            .refuses("seen(8, 100, true)", house -> house.seen(8, 100, true), UNKNOWN);
    }

    private static void outsideGoesAheadOfNo() {
        for (Supplier<SilenceCount> made : java.util.List.<Supplier<SilenceCount>>of(Houses::richWithFault,
            Houses::richThatCanNotBe)) {
            Sentence.ofTerms("the first of these that fits: OUTSIDE, NO", made)
                .refuses("judge(2)", house -> house.judge(2), OUTSIDE)
                .refuses("judge(-1)", house -> house.judge(-1), OUTSIDE)
                .refuses("behind(0, 2)", house -> house.behind(0, 2), OUTSIDE)
                .refuses("behind(0, -1)", house -> house.behind(0, -1), OUTSIDE)
                .refuses("breaths(2)", house -> house.breaths(2), OUTSIDE)
                .refuses("breaths(-1)", house -> house.breaths(-1), OUTSIDE);
        }
    }

    private static void outsideGoesAheadOfState() {
        Sentence.ofTerms("the first of these that fits: OUTSIDE, STATE", Houses::rich)
            .refuses("set(0, 0)", house -> house.set(0, 0), OUTSIDE)
            .refuses("set(0, -1)", house -> house.set(0, -1), OUTSIDE)
            .refuses("set(2, 1)", house -> house.set(2, 1), OUTSIDE)
            .refuses("restore(2)", house -> house.restore(2), OUTSIDE)
            .refuses("restore(-1)", house -> house.restore(-1), OUTSIDE);
        Sentence.ofTerms("the first of these that fits: OUTSIDE, STATE", Houses::asleepAndRich)
            .refuses("bees(11, 0, 0, 0)", house -> house.bees(11, 0, 0, 0), LOST + OUTSIDE)
            .refuses("bees(0, 11, 0, 0)", house -> house.bees(0, 11, 0, 0), LOST + OUTSIDE)
            .refuses("bees(0, 0, 2, 0)", house -> house.bees(0, 0, 2, 0), LOST + OUTSIDE)
            .refuses("bees(0, 0, 0, 2)", house -> house.bees(0, 0, 0, 2), LOST + OUTSIDE);
    }

    private static void outsideGoesAheadOfFull() {
        Sentence.ofTerms("the first of these that fits: OUTSIDE, FULL", Houses::fullPad)
            .refuses("say(32)", house -> house.say(32), OUTSIDE)
            .refuses("say(127)", house -> house.say(127), OUTSIDE);
        Sentence.ofTerms("the first of these that fits: OUTSIDE, FULL", Houses::fullSights)
            .refuses("seen(0, 100, true)", house -> house.seen(0, 100, true), OUTSIDE)
            .refuses("seen(0, -1, true)", house -> house.seen(0, -1, true), OUTSIDE);
    }

    /** NONE is an answer, not a refusal: what is refused does not come to it. */
    private static void outsideGoesAheadOfNone() {
        Sentence.ofTerms("OUTSIDE (another number is not as told)", Houses::asleep)
            .refuses("elbows(2)", house -> house.elbows(2), OUTSIDE)
            .refuses("elbows(-1)", house -> house.elbows(-1), OUTSIDE)
            .refuses("ask(0, 0, 2)", house -> house.ask(0, 0, 2), OUTSIDE)
            .refuses("ask(0, 100, 0)", house -> house.ask(0, 100, 0), OUTSIDE)
            .refuses("ask(5, 0, 0)", house -> house.ask(5, 0, 0), OUTSIDE)
            .refuses("judge(2)", house -> house.judge(2), OUTSIDE)
            .refuses("next(5, 0)", house -> house.next(5, 0), OUTSIDE)
            .refuses("bows(0, 100001, 1)", house -> house.bows(0, 100001, 1), OUTSIDE)
            .refuses("bows(0, 1, 0)", house -> house.bows(0, 1, 0), OUTSIDE)
            .refuses("relays(9, 2, 1, 1)", house -> house.relays(9, 2, 1, 1), OUTSIDE)
            .refuses("beads(1, 2)", house -> house.beads(1, 2), OUTSIDE);
    }

    private static void fractionsInLowestTerms() {
        Sentence.ofTerms("in lowest terms by part: 0 the upper, 1 the lower number",
            () -> Houses.behindIn(10, "", 5, 1))
            .answers("half at 4, half at 10, upper", house -> house.bees(1, 5, 0, 0), 7)
            .answers("half at 4, half at 10, lower", house -> house.bees(1, 5, 0, 1), 1)
            .answers("one tenth at 10, upper", house -> house.bees(1, 1, 0, 0), 23)
            .answers("one tenth at 10, lower", house -> house.bees(1, 1, 0, 1), 5)
            .answers("never at 0, upper", house -> house.bees(4, 1, 1, 0), 0)
            .answers("never at 0, lower", house -> house.bees(4, 1, 1, 1), 1);
        Sentence.ofTerms("refused with LOST and the refusal", EdgesOfTermsTest::nobody)
            .refuses("bees, part 2", house -> house.bees(1, 1, 0, 2), LOST + OUTSIDE)
            .refuses("bees, nobody there", house -> house.bees(1, 1, 0, 0), LOST + STATE);
    }

    private static void setsOfMonks() {
        Sentence.ofTerms("Sets of MONKS are bits", () -> {
            SilenceCount house = new SilenceCount();
            house.monk(0, 20, 1);
            house.monk(7, 20, 1);
            return house;
        }).answers("those there", house -> house.told(1), 1 + 128)
            .answers("those awake", house -> house.told(2), 1 + 128)
            .answers("those who may have skipped", house -> house.skips(0, 1), 1 + 128);
        Sentence.ofTerms("Sets of MONKS are bits", EdgesOfTermsTest::nobody)
            .answers("nobody there", house -> house.told(1), 0)
            .answers("nobody awake", house -> house.told(2), 0)
            .answers("nobody may have skipped", house -> house.skips(0, 1), 0);
        Sentence.ofTerms("Sets of MONKS are bits", () -> Houses.eightAt(1))
            .answers("all there", house -> house.told(1), 255)
            .answers("all awake", house -> house.told(2), 255)
            .answers("all may have skipped", house -> house.skips(0, 1), 255);
    }

    private static void monksNoneAtFirst() {
        Sentence.ofTerms("MONKS 0 to 7, some of whom are there (none at first)", EdgesOfTermsTest::nobody)
            .answers("told(1)", house -> house.told(1), 0)
            .refuses("state(0, 0)", house -> house.state(0, 0), UNKNOWN)
            .refuses("state(7, 0)", house -> house.state(7, 0), UNKNOWN)
            .refuses("leave(0)", house -> house.leave(0), UNKNOWN)
            .refuses("leave(7)", house -> house.leave(7), UNKNOWN);
    }

    private static void awakeAtFirst() {
        Sentence.ofTerms("is AWAKE (at first) or sleeps", () -> Houses.of(0, 1, 1000000, 9))
            .answers("state(0, 1)", house -> house.state(0, 1), 1)
            .answers("state(1, 1)", house -> house.state(1, 1), 1);
    }

    private static void houseAtFirst() {
        Sentence.ofTerms("HOUSE (1 to 1000000; 1000000 at first)", EdgesOfTermsTest::nobody)
            .answers("told(3)", house -> house.told(3), 1000000)
            .answers("what it was", house -> house.set(0, 1), 1000000);
        Sentence.ofTerms("SHARP (0 to 99; 9 at first)", EdgesOfTermsTest::nobody)
            .answers("told(4)", house -> house.told(4), 9)
            .answers("what it was", house -> house.set(1, 0), 9);
    }

    private static void breathToNought() {
        Sentence.ofTerms("each who is AWAKE has his PACE less to count (0 at least)",
            () -> Houses.behind(".", 4, 3, 3, 3, 2, 3, 0, 9, 1000000, 9))
            .answers("4 by 3", house -> house.state(0, 0), 1)
            .answers("3 by 3", house -> house.state(1, 0), 0)
            .answers("2 by 3", house -> house.state(2, 0), 0)
            .answers("0 by 9", house -> house.state(3, 0), 0)
            .answers("1000000 by 9", house -> house.state(4, 0), 999991);
    }

    private static void breathOfSleepers() {
        Sentence.ofTerms("A breath: each who is AWAKE", () -> Houses.behind("AB.:", 50, 5, 40, 1))
            .answers("a sleeper's COUNT", house -> house.state(0, 0), 50)
            .answers("the other one's", house -> house.state(1, 0), 45 - 11);
    }

    private static void bellToHouse() {
        Sentence.ofTerms("A bell: each who is AWAKE has 1 more (HOUSE at most)",
            () -> Houses.behindIn(10, "!", 10, 1, 9, 1, 8, 1, 0, 1))
            .answers("at HOUSE", house -> house.state(0, 0), 10)
            .answers("1 below HOUSE", house -> house.state(1, 0), 10)
            .answers("2 below HOUSE", house -> house.state(2, 0), 9)
            .answers("at 0", house -> house.state(3, 0), 1);
        Sentence.ofTerms("A bell: 1 more (HOUSE at most)", () -> Houses.behind("!", 1000000, 1, 999999, 1))
            .answers("at 1000000", house -> house.state(0, 0), 1000000)
            .answers("at 999999", house -> house.state(1, 0), 1000000);
    }

    private static void bellOfSleepers() {
        Sentence.ofTerms("A bell: each who is AWAKE", () -> Houses.behind("AB!", 50, 5, 40, 1))
            .answers("a sleeper's COUNT", house -> house.state(0, 0), 50)
            .answers("the other one's", house -> house.state(1, 0), 46);
    }

    private static void beeOfTheLeast() {
        Sentence.ofTerms("A bee: the one who is AWAKE and has the least to count",
            () -> Houses.behindIn(60, "AB*", 0, 1, 40, 1, 19, 1, 21, 1))
            .answers("a sleeper at less", house -> house.state(0, 0), 0)
            .answers("B", house -> house.state(1, 0), 20)
            .answers("the least who is awake", house -> house.state(2, 0), 60)
            .answers("D", house -> house.state(3, 0), 21);
    }

    private static void beeOfSeveral() {
        Sentence.ofTerms("A bee: (of several the least)", () -> Houses.behindIn(60, "*", 5, 1, 4, 1, 4, 1, 4, 1))
            .answers("A", house -> house.state(0, 0), 5)
            .answers("B, the least", house -> house.state(1, 0), 60)
            .answers("C", house -> house.state(2, 0), 4)
            .answers("D", house -> house.state(3, 0), 4);
    }

    private static void beeAtTheEdges() {
        Sentence.ofTerms("A bee: is at HOUSE again", () -> Houses.behindIn(1, "*", 0, 1, 1, 1))
            .answers("who was at 0", house -> house.state(0, 0), 1);
        Sentence.ofTerms("A bee: is at HOUSE again", () -> Houses.behindIn(1, "*", 1, 1))
            .answers("who was at HOUSE", house -> house.state(0, 0), 1);
        Sentence.ofTerms("A bee: is at HOUSE again", () -> Houses.behind("*", 0, 1))
            .answers("who is alone", house -> house.state(0, 0), 1000000);
    }

    private static void tenBreaths() {
        Sentence.ofTerms(": (ten breaths)", () -> Houses.behind(":", 91, 9, 90, 9, 89, 9, 0, 1, 10, 1, 11, 1))
            .answers("91 by 9", house -> house.state(0, 0), 1)
            .answers("90 by 9", house -> house.state(1, 0), 0)
            .answers("89 by 9", house -> house.state(2, 0), 0)
            .answers("0 by 1", house -> house.state(3, 0), 0)
            .answers("10 by 1", house -> house.state(4, 0), 0)
            .answers("11 by 1", house -> house.state(5, 0), 1);
    }

    private static void handOverCut() {
        int[][] middles = {{0, 0, 0}, {0, 1, 0}, {1, 0, 0}, {1, 1, 1}, {1, 2, 1}, {2, 1, 1}, {0, 1000000, 500000},
            {1000000, 1000000, 1000000}, {1000000, 999999, 999999}, {999999, 1000000, 999999}};
        for (int[] m : middles) {
            Sentence.ofTerms("the other one is at the middle of both counts, cut",
                () -> Houses.behind("AB", m[0], 1, m[1], 1))
                .answers("he who was at " + m[0], house -> house.state(0, 0), m[0])
                .answers("he sleeps", house -> house.state(0, 1), 0)
                .answers("the other one, of " + m[1], house -> house.state(1, 0), m[2])
                .answers("the other one is awake", house -> house.state(1, 1), 1);
        }
    }

    private static void wokenAtWhatHeWasAt() {
        Sentence.ofTerms("w (he is woken, at what he was at)", () -> Houses.behind("ACBC:!Aw", 20, 2, 0, 1, 60, 1))
            .answers("A's COUNT", house -> house.state(0, 0), 20)
            .answers("A is awake", house -> house.state(0, 1), 1)
            .answers("B sleeps on at 0", house -> house.state(1, 0), 0)
            .answers("B is asleep", house -> house.state(1, 1), 0);
        Sentence.ofTerms("w (he is woken)", () -> {
            SilenceCount house = Houses.asleep();
            Told.pass(house, "Bw");
            return house;
        }).answers("by nobody awake, at 0", house -> house.state(1, 0), 0)
            .answers("by nobody awake", house -> house.told(2), 2);
    }

    private static void coughToHouse() {
        Sentence.ofTerms("k (he has 3 more to count, HOUSE at most)",
            () -> Houses.behindIn(10, "AkBkCkDkEk", 10, 1, 8, 1, 7, 1, 6, 1, 0, 1, 0, 1))
            .answers("at HOUSE", house -> house.state(0, 0), 10)
            .answers("2 below HOUSE", house -> house.state(1, 0), 10)
            .answers("3 below HOUSE", house -> house.state(2, 0), 10)
            .answers("4 below HOUSE", house -> house.state(3, 0), 9)
            .answers("at 0", house -> house.state(4, 0), 3)
            .answers("who did not cough", house -> house.state(5, 0), 0);
        Sentence.ofTerms("k (HOUSE at most)", () -> Houses.behindIn(1, "Ak", 0, 1))
            .answers("in a HOUSE of 1", house -> house.state(0, 0), 1);
        Sentence.ofTerms("k (HOUSE at most)", () -> Houses.behind("Ak", 999998, 1))
            .answers("in a HOUSE of 1000000", house -> house.state(0, 0), 1000000);
    }

    private static void elbowHimselfAsWell() {
        Sentence.ofTerms("e (most who are AWAKE are at, himself as well)",
            () -> Houses.behind("Ae", 5, 1, 5, 1, 9, 1, 9, 1))
            .answers("without himself it were 9", house -> house.state(0, 0), 5);
        Sentence.ofTerms("e (himself as well)", () -> Houses.behind("Ae", 7, 1))
            .answers("who is alone", house -> house.state(0, 0), 7);
        Sentence.ofTerms("e (himself as well)", () -> Houses.behind("Ae", 0, 1, 1000000, 1))
            .answers("of two", house -> house.state(0, 0), 0);
    }

    private static void elbowOfSeveral() {
        Sentence.ofTerms("e (of several the least)", () -> Houses.behind("Ae", 9, 1, 5, 1))
            .answers("of two numbers", house -> house.state(0, 0), 5);
        Sentence.ofTerms("e (of several the least)", () -> Houses.behind("Ee", 9, 1, 9, 1, 5, 1, 5, 1, 2, 1))
            .answers("of two numbers, a lesser one being rarer", house -> house.state(4, 0), 5);
        Sentence.ofTerms("e (at the number that most are at)", () -> Houses.behind("Ce", 9, 1, 9, 1, 0, 1))
            .answers("from 0", house -> house.state(2, 0), 9);
        Sentence.ofTerms("e (at the number that most are at)", () -> Houses.behind("Ce", 0, 1, 0, 1, 1000000, 1))
            .answers("to 0", house -> house.state(2, 0), 0);
    }

    private static void elbowOfSleepers() {
        Sentence.ofTerms("e (that most who are AWAKE are at)",
            () -> Houses.behind("AEBECe", 3, 1, 3, 1, 9, 1, 8, 1, 200, 1))
            .answers("sleepers do not count", house -> house.state(2, 0), 8);
    }

    private static Sentence saying(String signs) {
        return Sentence.ofTerms("THE FAULT: the place (from 0 on) of the first sign that can not stand there",
            () -> Houses.saying(signs));
    }

    private static void faultPlaces() {
        String most = ".".repeat(59);
        saying("").answers("an empty PAD", house -> house.fault(), NONE);
        saying("w").answers("w", house -> house.fault(), 0);
        saying("A").answers("A: more must come", house -> house.fault(), 1);
        saying("A.").answers("A.", house -> house.fault(), 1);
        saying("AA").answers("AA", house -> house.fault(), NONE);
        saying("HH").answers("HH", house -> house.fault(), NONE);
        saying("AI").answers("AI", house -> house.fault(), 1);
        saying("A@").answers("A@", house -> house.fault(), 1);
        saying("I").answers("I", house -> house.fault(), 0);
        saying("@").answers("@", house -> house.fault(), 0);
        saying("I.I").answers("the first of two", house -> house.fault(), 0);
        saying(most + ".").answers("60 that can stand", house -> house.fault(), NONE);
        saying(most + "w").answers("the last of 60", house -> house.fault(), 59);
        saying(most + "H").answers("more must come behind 60", house -> house.fault(), 60);
        saying(".".repeat(58) + "HA").answers("an ACT of two at the end of 60", house -> house.fault(), NONE);
        saying("AB".repeat(30)).answers("thirty ACTS of two", house -> house.fault(), NONE);
    }

    /** B sleeps, D is not there. */
    private static SilenceCount threeSaying(String signs) {
        SilenceCount house = Houses.behind("BA", 100, 3, 90, 2, 100, 3);
        Told.say(house, signs);
        return house;
    }

    private static void reasonIs(String words, String signs, int why) {
        Sentence.ofTerms("An ACT can not be for the least of these reasons: " + words, () -> threeSaying(signs))
            .answers("why of " + signs, house -> house.judge(1), why)
            .answers("the ACT of " + signs, house -> house.judge(0), why == NONE ? NONE : 0);
    }

    private static void reasonOne() {
        String words = "1 a MONK is not there";
        for (String signs : new String[] {"DA", "AD", "DD", "DE", "BD", "DB", "Dw", "Dk", "De"}) {
            reasonIs(words, signs, 1);
        }
        reasonIs(words, "AC", NONE);
    }

    private static void reasonTwo() {
        reasonIs("2 both are one", "AA", 2);
        reasonIs("2 both are one (who sleeps)", "BB", 2);
        reasonIs("2 both are one", "CA", NONE);
    }

    private static void reasonThree() {
        for (String signs : new String[] {"Bk", "Be", "BA", "AB"}) {
            reasonIs("3 he sleeps", signs, 3);
        }
        for (String signs : new String[] {"Ak", "Ae", "AC", "CA"}) {
            reasonIs("3 he sleeps", signs, NONE);
        }
    }

    private static void reasonFour() {
        reasonIs("4 he is AWAKE (w)", "Aw", 4);
        reasonIs("4 he is AWAKE (w)", "Cw", 4);
        reasonIs("4 he is AWAKE (w)", "Bw", NONE);
    }

    private static void reasonFive() {
        for (String sign : new String[] {".", ":", "!", "*"}) {
            reasonIs("5 nobody is AWAKE (. : ! *)", sign, NONE);
            Sentence.ofTerms("5 nobody is AWAKE (. : ! *)", () -> Houses.saying(sign))
                .answers("nobody there, " + sign, house -> house.judge(1), 5)
                .answers("nobody there, the ACT", house -> house.judge(0), 0)
                .refuses("done of " + sign, house -> house.done(), NO);
            Sentence.ofTerms("5 nobody is AWAKE (. : ! *)", () -> {
                SilenceCount house = Houses.asleep();
                Told.say(house, sign);
                return house;
            }).answers("only sleepers, " + sign, house -> house.judge(1), 5)
                .refuses("done of " + sign, house -> house.done(), NO);
        }
    }

    private static void nobodyBowsAtNought() {
        Sentence none = Sentence.ofTerms("(At 0 nobody bows.)", () -> Houses.of(0, 1, 1, 1));
        for (int law = 0; law < 5; law++) {
            int by = law;
            none.answers("next(" + law + ", 0)", house -> house.next(by, 0), NONE);
            none.answers("seen to bow at 0, law " + law, house -> house.seen(0, 0, true) + house.skips(by, 0), 1);
            none.answers("seen not to bow at 0, law " + law, house -> house.seen(0, 9, false) + house.skips(by, 0),
                1 + 19);
        }
    }
}
