/** Monks, the pad, hours. */
public final class Promises01To16Test {
    private static final int NONE = -6, UNKNOWN = -1, OUTSIDE = -2, STATE = -3, FULL = -4, NO = -5;

    public static void main(String[] args) {
        constants();
        promise01();
        promise02();
        promise03();
        promise04();
        promise05();
        promise06();
        promise07();
        promise08();
        promise08Reasons();
        promise09();
        promise09Acts();
        promise10();
        promise11();
        promise12();
        promise13();
        promise14();
        promise15();
        promise16();
        Due.close();
    }

    private static void constants() {
        Due.is("NONE", SilenceCount.NONE, -6);
        Due.is("UNKNOWN", SilenceCount.UNKNOWN, -1);
        Due.is("OUTSIDE", SilenceCount.OUTSIDE, -2);
        Due.is("STATE", SilenceCount.STATE, -3);
        Due.is("FULL", SilenceCount.FULL, -4);
        Due.is("NO", SilenceCount.NO, -5);
        Due.is("LOST", SilenceCount.LOST, -1000000000000000000L);
    }

    private static void promise01() {
        SilenceCount house = new SilenceCount();
        Due.is("new: signs", house.told(0), 0);
        Due.is("new: monks", house.told(1), 0);
        Due.is("new: awake", house.told(2), 0);
        Due.is("new: house", house.told(3), 1000000);
        Due.is("new: sharp", house.told(4), 9);
        Due.is("new: sights", house.told(5), 0);
        for (int monk = 0; monk < 8; monk++) {
            Due.is("new: state", house.state(monk, 0), UNKNOWN);
            Due.is("new: pace", house.told(10 + monk), OUTSIDE);
        }
        Due.is("new: image 0", house.restore(0), STATE);
        Due.is("new: image 1", house.restore(1), STATE);
    }

    private static void promise02() {
        SilenceCount house = new SilenceCount();
        Due.is("monk 7", house.monk(7, 1000000, 9), 1);
        Due.is("monk 0", house.monk(0, 0, 1), 2);
        Due.is("monks", house.told(1), 0x81);
        Due.is("count of 7", house.state(7, 0), 1000000);
        Due.is("pace of 7", house.told(17), 9);
        Due.is("pace of 0", house.told(10), 1);
        Due.is("monk 0 anew", house.monk(0, 5, 4), 2);
        Due.is("count anew", house.state(0, 0), 5);
        Due.is("pace anew", house.told(10), 4);
        Told.pass(house, "AH");
        Due.is("asleep", house.state(0, 1), 0);
        Due.is("monk 0 anew, awake again", house.monk(0, 6, 4), 2);
        Due.is("awake", house.state(0, 1), 1);
        for (int monk : new int[] {-1, 8, Integer.MIN_VALUE, Integer.MAX_VALUE}) {
            Due.is("monk " + monk, house.monk(monk, -1, 0), UNKNOWN);
        }
        Due.is("count -1", house.monk(1, -1, 1), OUTSIDE);
        Due.is("count 1000001", house.monk(1, 1000001, 1), OUTSIDE);
        Due.is("pace 0", house.monk(1, 1, 0), OUTSIDE);
        Due.is("pace 10", house.monk(1, 1, 10), OUTSIDE);
        house.leave(7);
        house.set(0, 50);
        Due.is("count above HOUSE", house.monk(1, 51, 1), OUTSIDE);
        Due.is("count at HOUSE", house.monk(1, 50, 1), 2);
    }

    private static void promise03() {
        SilenceCount house = Told.three();
        Told.pass(house, "AB");
        Due.is("leave, asleep", house.leave(0), 2);
        Due.is("leave", house.leave(2), 1);
        Due.is("who is left", house.told(1), 2);
        Due.is("who is awake", house.told(2), 2);
        for (int monk : new int[] {0, -1, 8, 31, 32, 33, Integer.MIN_VALUE, Integer.MAX_VALUE}) {
            Due.is("leave " + monk, house.leave(monk), UNKNOWN);
        }
        Due.is("the last leaves", house.leave(1), 0);
        Due.is("nobody", house.told(1), 0);
    }

    private static void promise04() {
        SilenceCount house = Told.three();
        Due.is("set HOUSE", house.set(0, 100), 1000000);
        Due.is("HOUSE", house.told(3), 100);
        Due.is("set SHARP", house.set(1, 0), 9);
        Due.is("set SHARP again", house.set(1, 99), 0);
        Due.is("SHARP", house.told(4), 99);
        Due.is("HOUSE below a COUNT", house.set(0, 99), STATE);
        Due.is("HOUSE 0", house.set(0, 0), OUTSIDE);
        Due.is("HOUSE 1000001", house.set(0, 1000001), OUTSIDE);
        Due.is("SHARP -1", house.set(1, -1), OUTSIDE);
        Due.is("SHARP 100", house.set(1, 100), OUTSIDE);
        Due.is("which 2", house.set(2, 1), OUTSIDE);
        Due.is("which -1", house.set(-1, 1), OUTSIDE);
        Told.pass(house, "ABCB");
        Due.is("HOUSE below a sleeper's COUNT", house.set(0, 99), STATE);
        house.leave(0);
        house.leave(2);
        Due.is("who left does not count", house.set(0, 97), 100);
        Due.is("nobody's COUNT is above", new SilenceCount().set(0, 1), 1000000);
    }

    private static void promise05() {
        SilenceCount house = Told.three();
        Due.is("say 32", house.say(32), OUTSIDE);
        Due.is("say 127", house.say(127), OUTSIDE);
        Due.is("say 65536 + 46", house.say(65536 + 46), OUTSIDE);
        Due.is("say least", house.say(Integer.MIN_VALUE), OUTSIDE);
        Due.is("say 33", house.say(33), 1);
        Due.is("say 126", house.say(126), 2);
        for (int i = 3; i <= 60; i++) {
            Due.is("say", house.say('.'), i);
        }
        Due.is("say a 61st", house.say('.'), FULL);
        Due.is("OUTSIDE goes first", house.say(32), OUTSIDE);
        Due.is("signs", house.told(0), 60);
    }

    private static void promise06() {
        SilenceCount house = Told.three();
        Due.is("wipe nothing", house.wipe(), 0);
        Told.say(house, "A~.");
        Due.is("wipe", house.wipe(), 3);
        Due.is("signs", house.told(0), 0);
        Due.is("fault of nothing", house.fault(), NONE);
        for (int i = 0; i < 60; i++) {
            house.say('.');
        }
        Due.is("wipe a full pad", house.wipe(), 60);
        Due.is("say again", house.say('.'), 1);
    }

    private static void promise07() {
        SilenceCount house = new SilenceCount();
        faultIs(house, "", NONE);
        faultIs(house, ".:!*", NONE);
        faultIs(house, "AHHAAAAwHkBe", NONE);
        faultIs(house, "A", 1);
        faultIs(house, "..H", 3);
        faultIs(house, "I", 0);
        faultIs(house, "@", 0);
        faultIs(house, "AI", 1);
        faultIs(house, "A@", 1);
        faultIs(house, "A.", 1);
        faultIs(house, "..A*.", 3);
        faultIs(house, "w", 0);
        faultIs(house, "k", 0);
        faultIs(house, "e", 0);
        faultIs(house, "ABk", 2);
        faultIs(house, "ABC", 3);
        faultIs(house, "a", 0);
        faultIs(house, "Aa", 1);
        faultIs(house, "Ab.I", 1);
        faultOfEachSign();
        house.wipe();
        for (int i = 0; i < 59; i++) {
            house.say('.');
        }
        house.say('A');
        Due.is("fault at the end of a full pad", house.fault(), 60);
    }

    private static void faultOfEachSign() {
        for (int sign = 33; sign <= 126; sign++) {
            SilenceCount house = new SilenceCount();
            house.say(sign);
            boolean letter = sign >= 'A' && sign <= 'H';
            boolean whole = ".:!*".indexOf(sign) >= 0;
            Due.is("fault of sign " + sign, house.fault(), whole ? NONE : letter ? 1 : 0);
            house.wipe();
            house.say('B');
            house.say(sign);
            boolean second = letter || "wke".indexOf(sign) >= 0;
            Due.is("fault of B and sign " + sign, house.fault(), second ? NONE : 1);
        }
    }

    private static void faultIs(SilenceCount house, String signs, int want) {
        Told.write(house, signs);
        Due.is("fault of " + signs, house.fault(), want);
    }

    private static void promise08() {
        SilenceCount house = Told.three();
        Due.is("judge of nothing", house.judge(0), NONE);
        Due.is("why of nothing", house.judge(1), NONE);
        Due.is("judge 2", house.judge(2), OUTSIDE);
        Due.is("judge -1", house.judge(-1), OUTSIDE);
        Told.write(house, "A");
        Due.is("judge a fault", house.judge(0), NO);
        Due.is("why of a fault", house.judge(1), NO);
        Due.is("OUTSIDE goes first", house.judge(2), OUTSIDE);
        Told.write(house, "AwA");
        Due.is("a fault behind an act that can not be", house.judge(0), NO);
    }

    private static void promise08Reasons() {
        SilenceCount house = Told.three();
        judged(house, "AD", 0, 1);
        judged(house, "DA", 0, 1);
        judged(house, "DD", 0, 1);
        judged(house, "Dw", 0, 1);
        judged(house, "Dk", 0, 1);
        judged(house, "De", 0, 1);
        judged(house, "AA", 0, 2);
        judged(house, "ABAA", 1, 2);
        judged(house, "ABAC", 1, 3);
        judged(house, "ABCA", 1, 3);
        judged(house, "ABAk", 1, 3);
        judged(house, "ABAe", 1, 3);
        judged(house, "ABAD", 1, 1);
        judged(house, "Aw", 0, 4);
        judged(house, ":.!*Bw", 4, 4);
        judged(house, "ABAwAw", 2, 4);
        judged(house, "ABAwAkAeABCB.", NONE, NONE);
        Told.pass(house, "ABCB");
        house.leave(1);
        for (String sign : new String[] {".", ":", "!", "*"}) {
            judged(house, sign, 0, 5);
            judged(house, "Aw" + sign, NONE, NONE);
        }
        judged(house, "Ae", 0, 3);
        judged(new SilenceCount(), ".", 0, 5);
    }

    private static void judged(SilenceCount house, String signs, int act, int why) {
        Told.write(house, signs);
        Due.is("judge(0) of " + signs, house.judge(0), act);
        Due.is("judge(1) of " + signs, house.judge(1), why);
    }

    private static void promise09() {
        SilenceCount house = Told.three();
        Due.is("done of nothing", house.done(), 0);
        Told.write(house, ".:ABAw");
        Due.is("done", house.done(), 4);
        Due.is("the pad is empty", house.told(0), 0);
        Due.is("A", house.state(0, 0), 67);
        Due.is("B", house.state(1, 0), (67 + 68) / 2);
        Due.is("C", house.state(2, 0), 67);
        Told.write(house, "..A");
        Due.is("done of a fault", house.done(), NO);
        Told.write(house, "..AA");
        Due.is("done of what can not be", house.done(), NO);
        Due.is("the pad stays", house.told(0), 4);
    }

    private static void promise09Acts() {
        SilenceCount house = new SilenceCount();
        house.monk(0, 5, 9);
        house.monk(1, 30, 2);
        house.monk(2, 31, 2);
        passed(house, ".", 0, 28, 29);
        passed(house, "!", 1, 29, 30);
        passed(house, ":", 0, 9, 10);
        house.set(0, 10);
        passed(house, "!", 1, 10, 10);
        passed(house, "*", 10, 10, 10);
        passed(house, ".", 1, 8, 8);
        passed(house, "Ak", 4, 8, 8);
        passed(house, "CkCk", 4, 8, 10);
        passed(house, "CA", 7, 8, 10);
        Due.is("C sleeps", house.state(2, 1), 0);
        passed(house, ".!*", 10, 7, 10);
        passed(house, "Ae", 7, 7, 10);
        passed(house, "BkCw", 7, 10, 10);
        passed(house, "Ae", 10, 10, 10);
        passed(house, "*", 10, 10, 10);
        passed(house, ".", 1, 8, 8);
        passed(house, "!!", 3, 10, 10);
        passed(house, "Be", 3, 10, 10);
        house.monk(1, 3, 2);
        house.monk(2, 9, 2);
        house.monk(3, 9, 2);
        passed(house, "Ae", 3, 3, 9);
        Due.is("of two numbers as common the least", house.state(3, 0), 9);
        passed(house, "Ce", 3, 3, 3);
        house.monk(1, 4, 2);
        house.monk(2, 8, 1);
        house.monk(3, 9, 1);
        house.monk(0, 9, 1);
        house.monk(4, 4, 1);
        passed(house, "*", 9, 10, 8);
        Due.is("a bee stings the least of several", house.state(4, 0), 4);
    }

    private static void passed(SilenceCount house, String signs, int a, int b, int c) {
        Told.pass(house, signs);
        Due.is("A behind " + signs, house.state(0, 0), a);
        Due.is("B behind " + signs, house.state(1, 0), b);
        Due.is("C behind " + signs, house.state(2, 0), c);
    }

    private static void promise10() {
        SilenceCount house = Told.three();
        Told.pass(house, "BA");
        Due.is("count", house.state(0, 0), 95);
        Due.is("awake", house.state(0, 1), 1);
        Due.is("sleeper's count", house.state(1, 0), 90);
        Due.is("sleeper", house.state(1, 1), 0);
        Due.is("what 2", house.state(0, 2), OUTSIDE);
        Due.is("what -1", house.state(0, -1), OUTSIDE);
        for (int monk : new int[] {3, -1, 8, 32, Integer.MIN_VALUE, Integer.MAX_VALUE}) {
            Due.is("state of " + monk, house.state(monk, 2), UNKNOWN);
        }
    }

    private static void promise11() {
        SilenceCount house = Told.three();
        Told.write(house, "BA.");
        Due.is("behind A", house.behind(0, 0), 92);
        Due.is("behind A, awake", house.behind(0, 1), 1);
        Due.is("behind B", house.behind(1, 0), 90);
        Due.is("behind B, awake", house.behind(1, 1), 0);
        Due.is("nothing is done: A", house.state(0, 0), 100);
        Due.is("nothing is done: B", house.state(1, 1), 1);
        Due.is("nothing is done: signs", house.told(0), 3);
        Told.write(house, "B");
        Due.is("a fault", house.behind(0, 0), NO);
        Due.is("OUTSIDE goes first", house.behind(0, 2), OUTSIDE);
        Due.is("UNKNOWN goes first", house.behind(3, 2), UNKNOWN);
        Due.is("UNKNOWN 8", house.behind(8, 0), UNKNOWN);
        Told.write(house, ".BB");
        Due.is("an act that can not be", house.behind(0, 1), NO);
        house.wipe();
        Due.is("behind nothing", house.behind(0, 0), 100);
    }

    private static void promise12() {
        SilenceCount house = Told.three();
        breathsAre(house, "", 0, NONE);
        breathsAre(house, ".!:Ak.", 12, NONE);
        breathsAre(house, ":::::", 50, 34);
        breathsAre(house, ":::....", 34, 34);
        breathsAre(house, ":::...!.", 34, 34);
        breathsAre(house, ":::...!!!.", 34, NONE);
        breathsAre(house, "ACCB::::::::", 80, 48);
        house.monk(3, 0, 1);
        breathsAre(house, ":", 10, 0);
        Told.pass(house, "DA");
        breathsAre(house, ":", 10, 0);
        house.leave(3);
        breathsAre(house, ":", 10, NONE);
        Due.is("what 2", house.breaths(2), OUTSIDE);
        Due.is("what -1", house.breaths(-1), OUTSIDE);
        Told.write(house, ".A");
        Due.is("a fault", house.breaths(0), NO);
        Due.is("OUTSIDE goes first", house.breaths(2), OUTSIDE);
        Told.write(house, ".AA");
        Due.is("an act that can not be", house.breaths(0), NO);
        Due.is("an act that can not be, first", house.breaths(1), NO);
    }

    private static void breathsAre(SilenceCount house, String signs, int many, int first) {
        Told.write(house, signs);
        Due.is("breaths(0) of " + signs, house.breaths(0), many);
        Due.is("breaths(1) of " + signs, house.breaths(1), first);
    }

    private static void promise13() {
        SilenceCount house = Told.three();
        Due.is("noticed of nothing", house.noticed(), NONE);
        noticedIs(house, ".", NONE);
        noticedIs(house, "!", 0);
        noticedIs(house, "..!Bk", NONE);
        noticedIs(house, ".Ak..", 1);
        noticedIs(house, "AB", NONE);
        noticedIs(house, "ABCB!Aw", NONE);
        noticedIs(house, "::", 1);
        noticedIs(house, ":.........", NONE);
        noticedIs(house, ":..........", 10);
        house.set(1, 10);
        noticedIs(house, "!", NONE);
        noticedIs(house, "Ak", 0);
        house.set(1, 0);
        noticedIs(house, ":", NONE);
        noticedIs(house, "Be", NONE);
        noticedIs(house, "Be.", 1);
        Told.write(house, "A");
        Due.is("a fault", house.noticed(), NO);
        Told.write(house, "!AA");
        Due.is("an act that can not be", house.noticed(), NO);
    }

    private static void noticedIs(SilenceCount house, String signs, int want) {
        Told.write(house, signs);
        Due.is("noticed of " + signs, house.noticed(), want);
    }

    private static void promise14() {
        SilenceCount house = new SilenceCount();
        Due.is("nobody is ahead", house.ahead(), NONE);
        house.monk(5, 10, 1);
        Due.is("ahead alone", house.ahead(), 5);
        house.monk(6, 9, 1);
        Due.is("ahead", house.ahead(), 6);
        house.monk(3, 9, 1);
        Due.is("of several the least", house.ahead(), 3);
        Told.pass(house, "DG");
        Due.is("who sleeps is not ahead", house.ahead(), 6);
        house.leave(5);
        house.leave(6);
        Due.is("a sleeper alone", house.ahead(), NONE);
    }

    private static void promise15() {
        SilenceCount house = new SilenceCount();
        Due.is("nobody differs", house.differ(), 0);
        house.monk(5, 1000000, 1);
        Due.is("one differs", house.differ(), 0);
        house.monk(6, 0, 1);
        Due.is("the most", house.differ(), 1000000);
        house.monk(3, 7, 1);
        Told.pass(house, "GD");
        Due.is("who sleeps does not differ", house.differ(), 999997);
        house.leave(5);
        Due.is("one is left", house.differ(), 0);
    }

    private static void promise16() {
        SilenceCount house = new SilenceCount();
        Due.is("none alike", house.alike(-1), 0);
        Due.is("no first", house.alike(0), NONE);
        int[] counts = {5, 6, 5, 6, 7, 5, 6, 5};
        for (int monk = 0; monk < 8; monk++) {
            house.monk(monk, counts[monk], 1);
        }
        int[] twos = {2, 5, 7, 13, 16, 25, 27, 36, 57};
        Due.is("alike", house.alike(-1), twos.length);
        for (int i = 0; i < twos.length; i++) {
            Due.is("alike " + i, house.alike(i), twos[i]);
        }
        Due.is("one too many", house.alike(twos.length), NONE);
        Due.is("alike -2", house.alike(-2), NONE);
        Due.is("alike least", house.alike(Integer.MIN_VALUE), NONE);
        Due.is("alike greatest", house.alike(Integer.MAX_VALUE), NONE);
        Told.pass(house, "AC");
        Due.is("who sleeps is not alike", house.alike(-1), 6);
        Due.is("first without A", house.alike(0), 13);
        for (int monk = 0; monk < 8; monk++) {
            house.monk(monk, 3, 1);
        }
        Due.is("all alike", house.alike(-1), 28);
        Due.is("the last two", house.alike(27), 67);
    }
}
