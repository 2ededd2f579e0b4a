/** Reads out, as one text, what a house tells of itself, and makes houses in few words. */
final class Told {
    private Told() {
    }

    static String all(SilenceCount house) {
        StringBuilder text = new StringBuilder();
        for (int what = -1; what < 19; what++) {
            text.append(house.told(what)).append(' ');
        }
        for (int monk = 0; monk < 8; monk++) {
            text.append(house.state(monk, 0)).append('/').append(house.state(monk, 1)).append(' ');
        }
        text.append(house.fault()).append(' ').append(house.judge(0)).append(' ').append(house.judge(1));
        for (int law = 0; law < 5; law++) {
            text.append(' ').append(house.skips(law, 0)).append('/').append(house.skips(law, 1));
        }
        return text.toString();
    }

    /** All that and what the calls answer that only look; then what DONE, and each IMAGE, make of it. */
    static String toTheEnd(SilenceCount house) {
        StringBuilder text = new StringBuilder(all(house));
        for (int monk = 0; monk < 8; monk++) {
            text.append(' ').append(house.behind(monk, 0)).append('/').append(house.behind(monk, 1));
            text.append('/').append(house.ends(monk));
        }
        text.append(" breaths ").append(house.breaths(0)).append('/').append(house.breaths(1));
        text.append(" noticed ").append(house.noticed());
        for (int law = 0; law < 5; law++) {
            text.append(" ask ").append(house.ask(law, 0, 0)).append('/').append(house.ask(law, 2, 1));
        }
        text.append(" year ").append(house.year(4711, 99, 0));
        text.append(" done ").append(house.done()).append(": ").append(all(house));
        text.append(" wiped ").append(house.wipe());
        for (int image = 0; image < 2; image++) {
            text.append(" image ").append(house.restore(image)).append(": ").append(all(house));
        }
        return text.toString();
    }

    static void say(SilenceCount house, String signs) {
        for (int i = 0; i < signs.length(); i++) {
            Due.is("say " + signs.charAt(i), house.say(signs.charAt(i)), house.told(0));
        }
    }

    static void write(SilenceCount house, String signs) {
        house.wipe();
        say(house, signs);
    }

    static void pass(SilenceCount house, String signs) {
        write(house, signs);
        Due.isTrue("done of " + signs, house.done() >= 0);
    }

    /** A house with A 100 by 3, B 90 by 2, C 100 by 3. */
    static SilenceCount three() {
        SilenceCount house = new SilenceCount();
        house.monk(0, 100, 3);
        house.monk(1, 90, 2);
        house.monk(2, 100, 3);
        return house;
    }
}
