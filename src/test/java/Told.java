/** Reads out, as one text, what a house tells of itself, and writes on its pad. */
final class Told {
    private static final int NONE = -6;

    private Told() {
    }

    /** By calls that are not refused, as it is used to look at what refused calls change. */
    static String all(SilenceCount house) {
        StringBuilder text = new StringBuilder("told");
        for (int what = 0; what < 6; what++) {
            text.append(' ').append(house.told(what));
        }
        for (int monk = 0; monk < 8; monk++) {
            if (isThere(house, monk)) {
                text.append(", ").append(monk).append(" by ").append(house.told(10 + monk)).append(" at ");
                text.append(house.state(monk, 0)).append('/').append(house.state(monk, 1));
            }
        }
        for (int law = 0; law < 5; law++) {
            text.append(", skips ").append(house.skips(law, 0)).append('/').append(house.skips(law, 1));
        }
        return text.append(", fault ").append(house.fault()).toString();
    }

    /** All that and what the calls answer that only look; then what DONE, and each IMAGE, make of it. */
    static String toTheEnd(SilenceCount house) {
        StringBuilder text = new StringBuilder(all(house));
        for (int law = 0; law < 5; law++) {
            text.append(", ask ").append(house.ask(law, 0, 0)).append('/').append(house.ask(law, 2, 1));
        }
        text.append(", year ").append(house.year(4711, 99, 0)).append(", ends ").append(house.ends(-1));
        if (house.fault() == NONE) {
            text.append(", judged ").append(house.judge(0)).append('/').append(house.judge(1));
            appendHours(text, house);
        }
        text.append(", wiped ").append(house.wipe());
        for (int image = 0; image < 2; image++) {
            text.append("; image ").append(house.restore(image)).append(": ").append(all(house));
        }
        return text.toString();
    }

    private static void appendHours(StringBuilder text, SilenceCount house) {
        if (house.judge(0) != NONE) {
            return;
        }
        for (int monk = 0; monk < 8; monk++) {
            if (isThere(house, monk)) {
                text.append(", behind ").append(house.behind(monk, 0)).append('/').append(house.behind(monk, 1));
            }
        }
        text.append(", breaths ").append(house.breaths(0)).append('/').append(house.breaths(1));
        text.append(", noticed ").append(house.noticed());
        text.append("; done ").append(house.done()).append(": ").append(all(house));
    }

    private static boolean isThere(SilenceCount house, int monk) {
        return (house.told(1) >> monk & 1) == 1;
    }

    static void say(SilenceCount house, String signs) {
        for (int i = 0; i < signs.length(); i++) {
            Due.is("say " + signs.charAt(i), house.say(signs.charAt(i)), house.told(0));
        }
    }

    static void write(SilenceCount house, String signs) {
        house.wipe();
        say(house, signs);
    }

    static void pass(SilenceCount house, String signs) {
        write(house, signs);
        Due.isTrue("done of " + signs, house.done() >= 0);
    }

    /** A house with A 100 by 3, B 90 by 2, C 100 by 3. */
    static SilenceCount three() {
        SilenceCount house = new SilenceCount();
        house.monk(0, 100, 3);
        house.monk(1, 90, 2);
        house.monk(2, 100, 3);
        return house;
    }
}
