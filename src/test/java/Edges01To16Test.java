/** Promises 1 to 16: each sentence that names a boundary, just within it, just outside it, and what is refused. */
public final class Edges01To16Test {
    private static final int NONE = -6, UNKNOWN = -1, OUTSIDE = -2, STATE = -3, FULL = -4, NO = -5;
    private static final int LEAST = Integer.MIN_VALUE, GREATEST = Integer.MAX_VALUE;

    public static void main(String[] args) {
        promise01NobodyIsThere();
        promise02Monks();
        promise02Anew();
        promise02Count();
        promise02CountAboveHouse();
        promise02Pace();
        promise03WasNotThere();
        promise03TheLast();
        promise04House();
        promise04Sharp();
        promise04Which();
        promise04CountAboveThatHouse();
        promise05Signs();
        promise05Full();
        promise06Wipe();
        promise07Fault();
        promise08What();
        promise08ThereIsAFault();
        promise08None();
        promise08FirstAndLastAct();
        promise09Empty();
        promise09Full();
        promise09Fault();
        promise09CanNotBe();
        promise10State();
        promise11Behind();
        promise11No();
        promise12What();
        promise12HowMany();
        promise12BehindWhich();
        promise12No();
        promise13Sharp();
        promise13BehindAnAct();
        promise13TwoAwake();
        promise13No();
        promise14Ahead();
        promise15Differ();
        promise16Alike();
        promise16None();
        Due.close();
    }

    private static void promise01NobodyIsThere() {
        Sentence nobody = Sentence.of(1, "Nobody is there", SilenceCount::new)
            .answers("signs", house -> house.told(0), 0)
            .answers("MONKS", house -> house.told(1), 0)
            .answers("AWAKE", house -> house.told(2), 0)
            .answers("HOUSE", house -> house.told(3), 1000000)
            .answers("SHARP", house -> house.told(4), 9)
            .answers("SIGHTS", house -> house.told(5), 0)
            .answers("fault()", house -> house.fault(), NONE)
            .answers("done()", house -> house.done(), 0)
            .answers("wipe()", house -> house.wipe(), 0)
            .answers("forget()", house -> house.forget(), 0)
            .answers("ahead()", house -> house.ahead(), NONE)
            .answers("differ()", house -> house.differ(), 0)
            .answers("alike(-1)", house -> house.alike(-1), 0)
            .answers("ends(-1)", house -> house.ends(-1), NONE)
            .answers("elbows(0)", house -> house.elbows(0), NONE)
            .answers("noticed()", house -> house.noticed(), NONE)
            .refuses("restore(0)", house -> house.restore(0), STATE)
            .refuses("restore(1)", house -> house.restore(1), STATE);
        for (int monk = 0; monk < 8; monk++) {
            int he = monk;
            nobody.refuses("state(" + he + ", 0)", house -> house.state(he, 0), UNKNOWN);
            nobody.refuses("told(" + (10 + he) + ")", house -> house.told(10 + he), OUTSIDE);
        }
    }

    private static void promise02Monks() {
        Sentence monks = Sentence.of(2, "UNKNOWN (MONKS 0 to 7)", Houses::rich)
            .answers("monk(0, ..)", house -> house.monk(0, 9, 9), 4)
            .answers("monk(3, ..)", house -> house.monk(3, 9, 9), 5)
            .answers("monk(7, ..)", house -> house.monk(7, 9, 9), 4);
        for (int monk : Houses.NO_MONKS) {
            monks.refuses("monk(" + monk + ", 1, 1)", house -> house.monk(monk, 1, 1), UNKNOWN);
        }
        Sentence.of(2, "how many are", () -> Houses.of(1, 1, 1, 1, 1, 1, 1, 1, 1, 1, 1, 1, 1, 1))
            .answers("the eighth", house -> house.monk(7, 1, 1), 8)
            .answers("the seventh anew", house -> house.monk(6, 1, 1), 7);
        Sentence.of(2, "how many are", SilenceCount::new)
            .answers("the first", house -> house.monk(7, 1, 1), 1);
    }

    private static void promise02Anew() {
        Sentence.of(2, "A MONK is there (or anew), AWAKE", () -> {
            SilenceCount house = Houses.asleep();
            Due.is("monk(0, 0, 9)", house.monk(0, 0, 9), 2);
            return house;
        }).answers("a sleeper anew is awake", house -> house.state(0, 1), 1)
            .answers("his COUNT", house -> house.state(0, 0), 0)
            .answers("his PACE", house -> house.told(10), 9)
            .answers("the other sleeper", house -> house.state(1, 1), 0);
    }

    private static int countThen(SilenceCount house, int count) {
        house.monk(0, count, 1);
        return house.state(0, 0);
    }

    private static int paceThen(SilenceCount house, int pace) {
        house.monk(0, 1, pace);
        return house.told(10);
    }

    private static void promise02Count() {
        Sentence.of(2, "COUNT (0 to 1000000); OUTSIDE", () -> Houses.of(5, 2))
            .answers("COUNT 0", house -> countThen(house, 0), 0)
            .answers("COUNT 1", house -> countThen(house, 1), 1)
            .answers("COUNT 999999", house -> countThen(house, 999999), 999999)
            .answers("COUNT 1000000", house -> countThen(house, 1000000), 1000000)
            .refuses("COUNT -1", house -> house.monk(0, -1, 1), OUTSIDE)
            .refuses("COUNT 1000001", house -> house.monk(0, 1000001, 1), OUTSIDE)
            .refuses("COUNT -1, not yet there", house -> house.monk(5, -1, 1), OUTSIDE)
            .refuses("COUNT 1000001, not yet there", house -> house.monk(5, 1000001, 1), OUTSIDE)
            .refuses("the least COUNT", house -> house.monk(0, LEAST, 1), OUTSIDE)
            .refuses("the greatest COUNT", house -> house.monk(0, GREATEST, 1), OUTSIDE);
    }

    private static void promise02CountAboveHouse() {
        Sentence.of(2, "OUTSIDE: COUNT above HOUSE, too", Houses::rich)
            .answers("at HOUSE", house -> countThen(house, 500), 500)
            .answers("below HOUSE", house -> countThen(house, 499), 499)
            .refuses("above HOUSE", house -> house.monk(0, 501, 1), OUTSIDE)
            .refuses("above HOUSE, not yet there", house -> house.monk(4, 501, 1), OUTSIDE);
        Sentence.of(2, "OUTSIDE: COUNT above HOUSE, too", () -> Houses.behindIn(1, "", 0, 1))
            .answers("1 in a HOUSE of 1", house -> countThen(house, 1), 1)
            .refuses("2 in a HOUSE of 1", house -> house.monk(0, 2, 1), OUTSIDE);
    }

    private static void promise02Pace() {
        Sentence.of(2, "PACE (1 to 9); OUTSIDE", Houses::rich)
            .answers("PACE 1", house -> paceThen(house, 1), 1)
            .answers("PACE 9", house -> paceThen(house, 9), 9)
            .refuses("PACE 0", house -> house.monk(0, 1, 0), OUTSIDE)
            .refuses("PACE 10", house -> house.monk(0, 1, 10), OUTSIDE)
            .refuses("PACE 0, not yet there", house -> house.monk(5, 1, 0), OUTSIDE)
            .refuses("PACE 10, not yet there", house -> house.monk(5, 1, 10), OUTSIDE)
            .refuses("the least PACE", house -> house.monk(0, 1, LEAST), OUTSIDE)
            .refuses("the greatest PACE", house -> house.monk(0, 1, GREATEST), OUTSIDE);
    }

    private static void promise03WasNotThere() {
        Sentence left = Sentence.of(3, "UNKNOWN: he was not there", Houses::rich)
            .answers("leave(0)", house -> house.leave(0), 3)
            .answers("leave(7)", house -> house.leave(7), 3)
            .answers("leave(1), who sleeps", house -> house.leave(1), 3)
            .answers("leave(0) twice", house -> 10 * house.leave(0) + house.leave(0), 30 + UNKNOWN)
            .refuses("leave(3), who left", house -> house.leave(3), UNKNOWN)
            .refuses("leave(6), who never came", house -> house.leave(6), UNKNOWN);
        for (int monk : Houses.NO_MONKS) {
            left.refuses("leave(" + monk + ")", house -> house.leave(monk), UNKNOWN);
        }
    }

    private static void promise03TheLast() {
        Sentence.of(3, "A MONK is no more: how many are", () -> Houses.of(5, 5))
            .answers("the last", house -> house.leave(0), 0)
            .answers("then nobody is there", house -> house.leave(0) + house.told(1) + house.told(2), 0);
        Sentence.of(3, "A MONK is no more: how many are", () -> Houses.eightAt(1))
            .answers("of eight", house -> house.leave(7), 7)
            .answers("of eight, who is left", house -> house.leave(7) * 1000 + house.told(1), 7127);
    }

    private static int houseThen(SilenceCount house, int v) {
        house.set(0, v);
        return house.told(3);
    }

    private static int sharpThen(SilenceCount house, int v) {
        house.set(1, v);
        return house.told(4);
    }

    private static void promise04House() {
        Sentence.of(4, "HOUSE (1 to 1000000): which it was; OUTSIDE", SilenceCount::new)
            .answers("HOUSE 1", house -> houseThen(house, 1), 1)
            .answers("HOUSE 1000000", house -> houseThen(house, 1000000), 1000000)
            .answers("which it was", house -> house.set(0, 1), 1000000)
            .answers("which it was then", house -> house.set(0, 1) * 0 + house.set(0, 1000000), 1)
            .answers("SHARP stays", house -> house.set(0, 1) * 0 + house.told(4), 9)
            .refuses("HOUSE 0", house -> house.set(0, 0), OUTSIDE)
            .refuses("HOUSE -1", house -> house.set(0, -1), OUTSIDE)
            .refuses("HOUSE 1000001", house -> house.set(0, 1000001), OUTSIDE)
            .refuses("the least HOUSE", house -> house.set(0, LEAST), OUTSIDE)
            .refuses("the greatest HOUSE", house -> house.set(0, GREATEST), OUTSIDE);
    }

    private static void promise04Sharp() {
        Sentence.of(4, "SHARP (0 to 99): which it was; OUTSIDE", Houses::rich)
            .answers("SHARP 0", house -> sharpThen(house, 0), 0)
            .answers("SHARP 99", house -> sharpThen(house, 99), 99)
            .answers("which it was", house -> house.set(1, 0), 7)
            .answers("HOUSE stays", house -> house.set(1, 0) * 0 + house.told(3), 500)
            .refuses("SHARP -1", house -> house.set(1, -1), OUTSIDE)
            .refuses("SHARP 100", house -> house.set(1, 100), OUTSIDE)
            .refuses("the least SHARP", house -> house.set(1, LEAST), OUTSIDE)
            .refuses("the greatest SHARP", house -> house.set(1, GREATEST), OUTSIDE);
    }

    private static void promise04Which() {
        Sentence.of(4, "HOUSE (which = 0), SHARP (1); OUTSIDE", Houses::rich)
            .refuses("which = -1", house -> house.set(-1, 50), OUTSIDE)
            .refuses("which = 2", house -> house.set(2, 50), OUTSIDE)
            .refuses("the least", house -> house.set(LEAST, 50), OUTSIDE)
            .refuses("the greatest", house -> house.set(GREATEST, 50), OUTSIDE);
    }

    private static void promise04CountAboveThatHouse() {
        Sentence.of(4, "STATE: somebody's COUNT is above that HOUSE", Houses::rich)
            .answers("at the greatest COUNT", house -> house.set(0, 100), 500)
            .refuses("1 below it", house -> house.set(0, 99), STATE)
            .refuses("the least HOUSE", house -> house.set(0, 1), STATE);
        Sentence.of(4, "STATE: somebody's COUNT (a sleeper's)", Houses::asleep)
            .answers("at it", house -> house.set(0, 20), 1000000)
            .refuses("1 below it", house -> house.set(0, 19), STATE);
        Sentence.of(4, "STATE: somebody's COUNT (who left is nobody)", () -> {
            SilenceCount house = Houses.of(1000000, 1, 3, 1);
            house.leave(0);
            return house;
        }).answers("3", house -> house.set(0, 3), 1000000).refuses("2", house -> house.set(0, 2), STATE);
        Sentence.of(4, "STATE: somebody's COUNT is above that HOUSE", () -> Houses.of(1, 1, 0, 1))
            .answers("1", house -> house.set(0, 1), 1000000);
        Sentence.of(4, "STATE: somebody's COUNT is above that HOUSE", () -> Houses.of(2, 1, 0, 1))
            .refuses("1", house -> house.set(0, 1), STATE);
    }

    private static void promise05Signs() {
        Sentence.of(5, "codes 33 to 126; OUTSIDE", Houses::rich)
            .answers("say(33)", house -> house.say(33), 6)
            .answers("say(126)", house -> house.say(126), 6)
            .refuses("say(32)", house -> house.say(32), OUTSIDE)
            .refuses("say(127)", house -> house.say(127), OUTSIDE)
            .refuses("say(0)", house -> house.say(0), OUTSIDE)
            .refuses("say(-1)", house -> house.say(-1), OUTSIDE)
            .refuses("say(256 + 46)", house -> house.say(256 + 46), OUTSIDE)
            .refuses("say(65536 + 46)", house -> house.say(65536 + 46), OUTSIDE)
            .refuses("the least", house -> house.say(LEAST), OUTSIDE)
            .refuses("the greatest", house -> house.say(GREATEST), OUTSIDE);
    }

    private static void promise05Full() {
        Sentence.of(5, "60 SIGNS at most; FULL", Houses::fullPad)
            .answers("60 are there", house -> house.told(0), 60)
            .refuses("the 61st", house -> house.say('.'), FULL)
            .refuses("the 61st, a letter", house -> house.say('A'), FULL)
            .refuses("the 61st, 33", house -> house.say(33), FULL)
            .refuses("the 61st, 126", house -> house.say(126), FULL)
            .answers("behind wipe()", house -> house.wipe() + house.say('.'), 61)
            .answers("behind done()", house -> house.done() + house.say('.'), 59);
        Sentence.of(5, "A sign more: how many", () -> Houses.saying(".".repeat(59)))
            .answers("the 60th", house -> house.say('.'), 60);
        Sentence.of(5, "A sign more: how many", SilenceCount::new)
            .answers("the first", house -> house.say('~'), 1);
    }

    private static void promise06Wipe() {
        Sentence.of(6, "Signs go: how many there were", SilenceCount::new)
            .answers("none", house -> house.wipe(), 0);
        Sentence.of(6, "Signs go: how many there were", Houses::fullPad)
            .answers("60", house -> house.wipe(), 60)
            .answers("60, then none", house -> house.wipe() + house.wipe() + house.told(0), 60);
        Sentence.of(6, "Signs go", Houses::richWithFault)
            .answers("so does THE FAULT", house -> house.wipe() + house.fault(), 2 + NONE)
            .answers("the house stays", house -> house.wipe() * 0 + house.state(0, 0), 100)
            .answers("SIGHTS stay", house -> house.wipe() * 0 + house.told(5), 3);
    }

    private static void promise07Fault() {
        Sentence.of(7, "THE FAULT; NONE", SilenceCount::new)
            .answers("an empty PAD", house -> house.fault(), NONE)
            .answers("a letter alone", house -> house.say('H') + house.fault(), 2)
            .answers("the least sign", house -> house.say(33) + house.fault(), 1 + NONE)
            .answers("the greatest sign", house -> house.say(126) + house.fault(), 1);
        Sentence.of(7, "THE FAULT; NONE", Houses::fullPad)
            .answers("a full PAD", house -> house.fault(), NONE);
        Sentence.of(7, "the number of signs, if more must come", () -> Houses.saying(".".repeat(59) + "A"))
            .answers("a full PAD", house -> house.fault(), 60);
        Sentence.of(7, "THE FAULT (no matter who is there)", () -> Houses.saying("HGGG"))
            .answers("nobody there", house -> house.fault(), NONE);
    }

    private static void promise08What() {
        Sentence.of(8, "the ACT (what = 0), why (1); OUTSIDE", Houses::rich)
            .answers("what = 0", house -> house.judge(0), NONE)
            .answers("what = 1", house -> house.judge(1), NONE)
            .refuses("what = -1", house -> house.judge(-1), OUTSIDE)
            .refuses("what = 2", house -> house.judge(2), OUTSIDE)
            .refuses("the least", house -> house.judge(LEAST), OUTSIDE)
            .refuses("the greatest", house -> house.judge(GREATEST), OUTSIDE);
    }

    private static void promise08ThereIsAFault() {
        Sentence.of(8, "NO: there is a FAULT", Houses::richWithFault)
            .refuses("judge(0)", house -> house.judge(0), NO)
            .refuses("judge(1)", house -> house.judge(1), NO);
        Sentence.of(8, "NO: there is a FAULT (behind an ACT that can not be)", () -> Houses.saying("AAA", 5, 1))
            .refuses("judge(0)", house -> house.judge(0), NO)
            .refuses("judge(1)", house -> house.judge(1), NO);
        Sentence.of(8, "NO: there is a FAULT (at 60)", () -> Houses.saying(".".repeat(59) + "A", 5, 1))
            .refuses("judge(0)", house -> house.judge(0), NO);
    }

    private static void promise08None() {
        Sentence.of(8, "JUDGED; NONE", SilenceCount::new)
            .answers("an empty PAD, the ACT", house -> house.judge(0), NONE)
            .answers("an empty PAD, why", house -> house.judge(1), NONE);
        Sentence.of(8, "JUDGED; NONE", Houses::fullPad)
            .answers("a full PAD, the ACT", house -> house.judge(0), NONE)
            .answers("a full PAD, why", house -> house.judge(1), NONE);
    }

    private static void promise08FirstAndLastAct() {
        Sentence.of(8, "the first ACT (from 0 on; : is one) that can not be", () -> Houses.saying("AA:Aw", 5, 1))
            .answers("the first of two", house -> house.judge(0), 0)
            .answers("why", house -> house.judge(1), 2);
        Sentence.of(8, "the first ACT (from 0 on; : is one) that can not be", () -> Houses.saying("::Aw", 5, 1))
            .answers("behind twenty breaths", house -> house.judge(0), 2)
            .answers("why", house -> house.judge(1), 4);
        Sentence.of(8, "the first ACT that can not be", () -> Houses.saying(":".repeat(58) + "AA", 5, 1))
            .answers("the last of 59", house -> house.judge(0), 58)
            .answers("why", house -> house.judge(1), 2);
        Sentence.of(8, "the first ACT that can not be", () -> Houses.saying("ABAw".repeat(14) + "ABBA", 5, 1, 5, 1))
            .answers("the last of 30", house -> house.judge(0), 29)
            .answers("why", house -> house.judge(1), 3);
    }

    private static void promise09Empty() {
        Sentence.of(9, "HOURS are DONE: ACTS", SilenceCount::new)
            .answers("an empty PAD, nobody there", house -> house.done(), 0);
        Sentence.of(9, "HOURS are DONE: ACTS", Houses::asleep)
            .answers("an empty PAD, nobody awake", house -> house.done(), 0);
        Sentence.of(9, "HOURS on the PAD are DONE (it is empty then)", Houses::rich)
            .answers("ACTS", house -> house.done(), 4)
            .answers("told(0)", house -> house.done() * 0 + house.told(0), 0)
            .answers("done() again", house -> house.done() * 0 + house.done(), 0)
            .answers("A", house -> house.done() * 0 + house.state(0, 0), 100 - 6 + 3 + 1)
            .answers("the sleeper", house -> house.done() * 0 + house.state(1, 0), 90);
    }

    private static void promise09Full() {
        Sentence.of(9, "HOURS are DONE: ACTS", Houses::fullPad)
            .answers("of 60 signs", house -> house.done(), 58)
            .answers("A's COUNT", house -> house.done() * 0 + house.state(0, 0), (1003 + 972) / 2);
        Sentence.of(9, "HOURS are DONE: ACTS", () -> Houses.saying(":".repeat(60), 601, 1))
            .answers("60", house -> house.done(), 60)
            .answers("A's COUNT", house -> house.done() * 0 + house.state(0, 0), 1);
    }

    private static void promise09Fault() {
        Sentence.of(9, "NO: there is a FAULT", Houses::richWithFault)
            .refuses("done()", house -> house.done(), NO);
        Sentence.of(9, "NO: there is a FAULT (more must come behind 60)",
            () -> Houses.saying(".".repeat(59) + "A", 100, 1))
            .refuses("done()", house -> house.done(), NO);
    }

    private static void promise09CanNotBe() {
        Sentence.of(9, "NO: or an ACT that can not be", Houses::richThatCanNotBe)
            .refuses("the last ACT", house -> house.done(), NO);
        Sentence.of(9, "NO: or an ACT that can not be", () -> Houses.saying("AA...", 100, 1))
            .refuses("the first ACT", house -> house.done(), NO);
        Sentence.of(9, "NO: or an ACT that can not be", () -> Houses.saying(".".repeat(58) + "AA", 100, 1))
            .refuses("the last of 60 signs", house -> house.done(), NO);
    }

    private static void promise10State() {
        Sentence state = Sentence.of(10, "COUNT (what = 0), whether he is AWAKE (1: 1, 0). UNKNOWN; OUTSIDE",
            Houses::rich)
            .answers("state(0, 0)", house -> house.state(0, 0), 100)
            .answers("state(0, 1)", house -> house.state(0, 1), 1)
            .answers("state(1, 1), who sleeps", house -> house.state(1, 1), 0)
            .answers("state(7, 0)", house -> house.state(7, 0), 65)
            .refuses("state(0, -1)", house -> house.state(0, -1), OUTSIDE)
            .refuses("state(0, 2)", house -> house.state(0, 2), OUTSIDE)
            .refuses("state(7, least)", house -> house.state(7, LEAST), OUTSIDE)
            .refuses("state(7, greatest)", house -> house.state(7, GREATEST), OUTSIDE)
            .refuses("state(3, 0), who left", house -> house.state(3, 0), UNKNOWN)
            .refuses("state(6, 1)", house -> house.state(6, 1), UNKNOWN);
        for (int monk : Houses.NO_MONKS) {
            state.refuses("state(" + monk + ", 0)", house -> house.state(monk, 0), UNKNOWN);
        }
        Sentence.of(10, "COUNT (what = 0)", () -> Houses.of(0, 1, 1000000, 1))
            .answers("the least", house -> house.state(0, 0), 0)
            .answers("the greatest", house -> house.state(1, 0), 1000000);
    }

    private static void promise11Behind() {
        Sentence behind = Sentence.of(11, "BEHIND, likewise. UNKNOWN; OUTSIDE", Houses::rich)
            .answers("behind(0, 0)", house -> house.behind(0, 0), 98)
            .answers("behind(0, 1)", house -> house.behind(0, 1), 1)
            .answers("behind(1, 1), who sleeps", house -> house.behind(1, 1), 0)
            .answers("behind(7, 0)", house -> house.behind(7, 0), 56)
            .answers("not being DONE", house -> house.behind(7, 0) * 0 + house.state(7, 0), 65)
            .answers("not being DONE, the PAD", house -> house.behind(7, 0) * 0 + house.told(0), 5)
            .refuses("behind(0, -1)", house -> house.behind(0, -1), OUTSIDE)
            .refuses("behind(0, 2)", house -> house.behind(0, 2), OUTSIDE)
            .refuses("behind(3, 0), who left", house -> house.behind(3, 0), UNKNOWN)
            .refuses("behind(6, 0)", house -> house.behind(6, 0), UNKNOWN);
        for (int monk : Houses.NO_MONKS) {
            behind.refuses("behind(" + monk + ", 0)", house -> house.behind(monk, 0), UNKNOWN);
        }
        Sentence.of(11, "BEHIND an empty PAD", Houses::asleep)
            .answers("behind(0, 0)", house -> house.behind(0, 0), 20)
            .answers("behind(0, 1)", house -> house.behind(0, 1), 0);
        Sentence.of(11, "BEHIND a full PAD", Houses::fullPad)
            .answers("behind(0, 0)", house -> house.behind(0, 0), (1003 + 972) / 2)
            .answers("behind(1, 1)", house -> house.behind(1, 1), 0);
    }

    private static void promise11No() {
        Sentence.of(11, "NO, as of done(): a FAULT", Houses::richWithFault)
            .refuses("behind(0, 0)", house -> house.behind(0, 0), NO)
            .refuses("behind(7, 1)", house -> house.behind(7, 1), NO);
        Sentence.of(11, "NO, as of done(): an ACT that can not be", Houses::richThatCanNotBe)
            .refuses("behind(0, 0)", house -> house.behind(0, 0), NO)
            .refuses("behind(7, 1)", house -> house.behind(7, 1), NO);
    }

    private static void promise12What() {
        Sentence.of(12, "how many (what = 0), behind which (1). OUTSIDE", Houses::rich)
            .answers("what = 0", house -> house.breaths(0), 2)
            .answers("what = 1", house -> house.breaths(1), NONE)
            .refuses("what = -1", house -> house.breaths(-1), OUTSIDE)
            .refuses("what = 2", house -> house.breaths(2), OUTSIDE)
            .refuses("the least", house -> house.breaths(LEAST), OUTSIDE)
            .refuses("the greatest", house -> house.breaths(GREATEST), OUTSIDE);
    }

    private static void promise12HowMany() {
        Sentence.of(12, "BREATHS of HOURS: how many", SilenceCount::new)
            .answers("an empty PAD", house -> house.breaths(0), 0);
        Sentence.of(12, "BREATHS of HOURS: how many", () -> Houses.saying("!*AkAe", 5, 1))
            .answers("no breath", house -> house.breaths(0), 0);
        Sentence.of(12, "BREATHS of HOURS: how many", () -> Houses.saying(".", 5, 1))
            .answers("one", house -> house.breaths(0), 1);
        Sentence.of(12, "BREATHS of HOURS: how many", () -> Houses.saying(":".repeat(60), 5, 1))
            .answers("600", house -> house.breaths(0), 600)
            .answers("600, asked again", house -> house.breaths(0) * 0 + house.breaths(0), 600);
    }

    private static Sentence firstNought(String signs, int... countsAndPaces) {
        return Sentence.of(12, "behind which some MONK is at 0 first (from 1 on; 0: one is so now; NONE)",
            () -> Houses.saying(signs, countsAndPaces));
    }

    private static void promise12BehindWhich() {
        firstNought("").answers("nobody there", house -> house.breaths(1), NONE);
        firstNought("", 1, 9).answers("no breath", house -> house.breaths(1), NONE);
        firstNought("", 0, 1).answers("at 0 now, no breath", house -> house.breaths(1), 0);
        firstNought("!", 0, 1).answers("at 0 now, a bell", house -> house.breaths(1), 0);
        firstNought(".", 1, 1, 0, 1).answers("one at 0 now", house -> house.breaths(1), 0);
        firstNought(".", 9, 9).answers("behind the first", house -> house.breaths(1), 1);
        firstNought(".", 10, 9).answers("not behind the first", house -> house.breaths(1), NONE);
        firstNought(":", 10, 1).answers("behind the tenth", house -> house.breaths(1), 10);
        firstNought(":", 11, 1).answers("not behind the tenth", house -> house.breaths(1), NONE);
        firstNought(":.", 11, 1).answers("behind the 11th", house -> house.breaths(1), 11);
        firstNought(":", 9, 1, 7, 2).answers("who is first", house -> house.breaths(1), 4);
        firstNought(":!:", 10, 1).answers("and 1 again", house -> house.breaths(1), 10);
        firstNought(":".repeat(60), 600, 1).answers("behind the 600th", house -> house.breaths(1), 600);
        firstNought(":".repeat(60), 601, 1).answers("not behind the 600th", house -> house.breaths(1), NONE);
        firstNought("AB::", 5, 1, 25, 1).answers("a sleeper has no breath", house -> house.breaths(1), 15);
        Sentence.of(12, "0: one is so now", Houses::asleep)
            .answers("a sleeper at 0", house -> house.breaths(1), 0);
    }

    private static void promise12No() {
        Sentence.of(12, "NO, likewise: a FAULT", Houses::richWithFault)
            .refuses("breaths(0)", house -> house.breaths(0), NO)
            .refuses("breaths(1)", house -> house.breaths(1), NO);
        Sentence.of(12, "NO, likewise: an ACT that can not be", Houses::richThatCanNotBe)
            .refuses("breaths(0)", house -> house.breaths(0), NO)
            .refuses("breaths(1)", house -> house.breaths(1), NO);
    }

    private static int noticedBy(SilenceCount house, int sharp) {
        house.set(1, sharp);
        return house.noticed();
    }

    private static void promise13Sharp() {
        int[][] edges = {{0, 0, NONE}, {0, 1, 0}, {9, 9, NONE}, {9, 10, 0}, {98, 99, 0}, {99, 99, NONE}, {99, 100, 0}};
        for (int[] edge : edges) {
            Sentence.of(13, "two who are AWAKE differ by more than SHARP",
                () -> Houses.saying(".", 200, 1, 200 + edge[1], 1))
                .answers("SHARP " + edge[0] + ", by " + edge[1], house -> noticedBy(house, edge[0]), edge[2])
                .answers("SHARP at first, by " + edge[1], house -> house.noticed(), edge[1] > 9 ? 0 : NONE);
        }
    }

    private static void promise13BehindAnAct() {
        Sentence.of(13, "the first ACT behind which", () -> Houses.saying("", 0, 1, 1000000, 1))
            .answers("an empty PAD", house -> house.noticed(), NONE);
        Sentence.of(13, "the first ACT behind which", () -> Houses.saying("Be", 0, 1, 1000000, 1))
            .answers("alike again behind the first", house -> house.noticed(), NONE);
        Sentence.of(13, "the first ACT behind which", () -> Houses.saying(".".repeat(60), 860, 1, 800, 2))
            .answers("60 less at the end, at once", house -> house.noticed(), 0);
        Sentence.of(13, "the first ACT behind which", () -> Houses.saying("!".repeat(59) + ".", 800, 1, 809, 2, 801, 9))
            .answers("the last of 60", house -> house.noticed(), 59);
        Sentence.of(13, "the first ACT behind which", () -> Houses.saying("!".repeat(60), 800, 1, 809, 2, 801, 9))
            .answers("none of 60", house -> house.noticed(), NONE);
    }

    private static void promise13TwoAwake() {
        Sentence.of(13, "two who are AWAKE", () -> Houses.saying(".", 5, 1))
            .answers("one alone", house -> house.noticed(), NONE);
        Sentence.of(13, "two who are AWAKE", () -> Houses.saying("AB", 0, 1, 1000000, 1))
            .answers("the other one sleeps then", house -> house.noticed(), NONE);
        Sentence.of(13, "two who are AWAKE", () -> Houses.saying("ABAw", 0, 1, 1000000, 1))
            .answers("he is awake again", house -> house.noticed(), 1);
        Sentence.of(13, "two who are AWAKE", Houses::asleep)
            .answers("nobody awake", house -> house.noticed(), NONE);
    }

    private static void promise13No() {
        Sentence.of(13, "NO, likewise: a FAULT", Houses::richWithFault)
            .refuses("noticed()", house -> house.noticed(), NO);
        Sentence.of(13, "NO, likewise: an ACT that can not be", Houses::richThatCanNotBe)
            .refuses("noticed()", house -> house.noticed(), NO);
    }

    private static void promise14Ahead() {
        Sentence.of(14, "AHEAD; NONE: nobody is AWAKE", SilenceCount::new)
            .answers("nobody there", house -> house.ahead(), NONE);
        Sentence.of(14, "AHEAD; NONE: nobody is AWAKE", Houses::asleep)
            .answers("only sleepers", house -> house.ahead(), NONE)
            .answers("one anew, at more", house -> house.monk(7, 1000000, 1) * 0 + house.ahead(), 7);
        Sentence.of(14, "of several the least", () -> Houses.of(5, 1, 4, 1, 4, 9))
            .answers("of two", house -> house.ahead(), 1);
        Sentence.of(14, "of several the least", () -> Houses.eightAt(0))
            .answers("of eight, at 0", house -> house.ahead(), 0);
        Sentence.of(14, "who is AWAKE and has the least to count", () -> Houses.of(1, 1, 1, 1, 0, 1))
            .answers("at 0", house -> house.ahead(), 2);
    }

    private static void promise15Differ() {
        Sentence.of(15, "DIFFER (0: nobody is AWAKE)", SilenceCount::new)
            .answers("nobody there", house -> house.differ(), 0);
        Sentence.of(15, "DIFFER (0: nobody is AWAKE)", Houses::asleep)
            .answers("only sleepers", house -> house.differ(), 0);
        Sentence.of(15, "how much the greatest COUNT is more than the least", () -> Houses.of(0, 1, 0, 9))
            .answers("all at 0", house -> house.differ(), 0);
        Sentence.of(15, "of those who are AWAKE", () -> Houses.of(1000000, 1))
            .answers("one alone", house -> house.differ(), 0);
        Sentence.of(15, "of those who are AWAKE", () -> Houses.behind("AC", 0, 1, 7, 1, 9, 1))
            .answers("a sleeper at 0", house -> house.differ(), 3);
        Sentence.of(15, "how much the greatest COUNT is more than the least", () -> Houses.of(3, 1, 1000000, 1, 0, 1))
            .answers("the most", house -> house.differ(), 1000000);
    }

    private static void promise16Alike() {
        Sentence.of(16, "how many (i = -1), the i-th", () -> Houses.eightAt(3))
            .answers("all of eight", house -> house.alike(-1), 28)
            .answers("the first", house -> house.alike(0), 1)
            .answers("the last", house -> house.alike(27), 67)
            .answers("one too many", house -> house.alike(28), NONE);
        Sentence.of(16, "how many (i = -1), the i-th", () -> Houses.of(0, 1, 5, 1, 0, 2))
            .answers("two at 0", house -> house.alike(-1), 1)
            .answers("who", house -> house.alike(0), 2)
            .answers("one too many", house -> house.alike(1), NONE);
    }

    private static void promise16None() {
        Sentence.of(16, "how many; NONE", SilenceCount::new)
            .answers("nobody there", house -> house.alike(-1), 0)
            .answers("no first", house -> house.alike(0), NONE);
        Sentence.of(16, "twos who are AWAKE", () -> Houses.behind("AC", 6, 1, 6, 1, 6, 1))
            .answers("a sleeper's twos", house -> house.alike(-1), 1)
            .answers("those awake", house -> house.alike(0), 12);
        Sentence.of(16, "twos who are AWAKE", () -> Houses.behind("CA", 6, 1, 6, 1, 6, 1))
            .answers("the greater sleeps", house -> house.alike(-1), 1)
            .answers("those awake", house -> house.alike(0), 1);
        Sentence.of(16, "the i-th; NONE", () -> Houses.of(6, 1, 6, 1))
            .answers("i = -2", house -> house.alike(-2), NONE)
            .answers("the least", house -> house.alike(LEAST), NONE)
            .answers("the greatest", house -> house.alike(GREATEST), NONE);
    }
}
