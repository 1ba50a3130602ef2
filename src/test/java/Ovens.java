/** Ovens made ready for the tests, and all that one of them tells. */
final class Ovens {
    static final int MIN = Integer.MIN_VALUE;
    static final int MAX = Integer.MAX_VALUE;

    private Ovens() {
    }

    /** An oven that neither cools nor feels its door. */
    static BrickOven steady(int heat) {
        BrickOven x = new BrickOven();
        x.set(0, heat);
        x.set(1, 0);
        x.set(2, 0);
        return x;
    }

    static void sayAll(BrickOven x, String text) {
        for (int i = 0; i < text.length(); i++) {
            x.say(text.charAt(i));
        }
    }

    static BrickOven padOf(BrickOven x, String text) {
        x.wipe();
        sayAll(x, text);
        return x;
    }

    /** A loaf of such a sort in row 0, put in and baked exactly so much; the oven must be steady. */
    static void bakeTo(BrickOven x, char letter, int baked) {
        padOf(x, "0" + letter).done();
        for (int left = baked; left > 0; left -= 99) {
            x.set(0, Math.min(99, left));
            padOf(x, ".").done();
        }
    }

    /** Everything but the IMAGES, as one text, by 113 calls. */
    static String tellAll(BrickOven x) {
        StringBuilder all = new StringBuilder();
        for (int what = 0; what <= 15; what++) {
            all.append(x.told(what)).append(' ');
        }
        for (int sort = 0; sort < 6; sort++) {
            for (int what = 0; what < 4; what++) {
                all.append(x.told(20 + 10 * sort + what)).append(' ');
            }
        }
        for (int cell = 0; cell < 48; cell++) {
            all.append(x.state(cell / 12, cell / 2 % 6, cell % 2)).append(' ');
        }
        for (int what = 0; what < 4; what++) {
            all.append(x.out(what)).append(' ');
        }
        for (int sight = 0; sight < 6; sight++) {
            all.append(x.stood(sight, -1)).append(' ').append(x.stood(sight, 0)).append(' ');
        }
        for (int what = 0; what < 6; what++) {
            all.append(x.judge(what)).append(' ');
        }
        return all.append(x.heat()).append(' ').append(x.fault()).append(' ').append(x.spoilt()).toString();
    }
}
