import java.util.Random;

/** Makes descriptions, scripts and names, most of them without an error. */
final class TextMaker {
    private static final int MOST = 580;

    private final Random random;

    TextMaker(Random random) {
        this.random = random;
    }

    private int upTo(int most) {
        return random.nextInt(most + 1);
    }

    private String pick(String... words) {
        return words[random.nextInt(words.length)];
    }

    String name() {
        if (random.nextInt(40) == 0) {
            return pick("", "A", "abcdefghi", "a b", "a1", "\u00e9", " ");
        }
        return pick("ann", "bob", "oslo", "lima", "rome", "cyd", "dee", "eve", "abcdefgh", "x", "y",
                "z");
    }

    private String widths() {
        StringBuilder all = new StringBuilder("globe");
        int left = 360;
        for (int gores = 1 + upTo(11); gores > 1 && left > 20; gores--) {
            int width = 10 + random.nextInt(Math.min(120, left - 19));
            all.append(' ').append(width);
            left -= width;
        }
        return all.append(' ').append(left).append(';').toString();
    }

    private int meridian() {
        return random.nextInt(3) == 0 ? upTo(359) : 120 + upTo(140);
    }

    private String statement() {
        switch (random.nextInt(9)) {
            case 0:
                return "town " + name() + " " + upTo(8) + " " + meridian();
            case 1:
                return "person " + name() + " " + upTo(8) + " " + meridian();
            case 2:
                return "label " + name() + " " + upTo(8) + " " + meridian();
            case 3:
                return "hem " + upTo(8) + " " + (150 + upTo(60));
            case 4:
                return "sew " + upTo(3) + " " + (1 + upTo(40));
            case 5:
                return "rip " + upTo(3);
            case 6:
                return "walk " + name() + pick(" east ", " west ") + upTo(359);
            case 7:
                return "thread " + upTo(300);
            default:
                return "pass " + (1 + upTo(random.nextInt(6) == 0 ? 239 : 9));
        }
    }

    String description() {
        StringBuilder all = new StringBuilder(widths());
        for (int left = upTo(10); left > 0; left--) {
            all.append(statement()).append(';').append(pick("", " ", "\n"));
        }
        return spoilt(all.toString());
    }

    String script() {
        StringBuilder all = new StringBuilder();
        commands(all, 0, random.nextInt(30) == 0 ? 32 : 5);
        return spoilt(all.toString());
    }

    private void commands(StringBuilder all, int depth, int most) {
        for (int left = upTo(most); left > 0; left--) {
            if (random.nextInt(4) == 0 && depth < (random.nextInt(20) == 0 ? 3 : 2)) {
                all.append("repeat ").append(1 + upTo(random.nextInt(3) == 0 ? 19 : 3)).append(" (");
                commands(all, depth + 1, 3);
                all.append(");");
            } else {
                all.append(command()).append(';');
            }
        }
    }

    private String command() {
        switch (random.nextInt(6)) {
            case 0:
                return "hem " + upTo(8) + " " + (150 + upTo(60));
            case 1:
                return "sew " + upTo(3) + " " + (1 + upTo(9));
            case 2:
                return "step " + upTo(3) + " " + upTo(1);
            case 3:
                return "walk " + upTo(3) + " " + upTo(1) + " " + upTo(359);
            case 4:
                return "rip " + upTo(6);
            default:
                return "pass " + (1 + upTo(9));
        }
    }

    /** Mostly the text itself; now and then with a token or sign changed, added or taken away. */
    private String spoilt(String text) {
        StringBuilder all = new StringBuilder(text);
        for (int left = random.nextInt(3) == 0 ? 1 + upTo(1) : 0; left > 0; left--) {
            int at = upTo(all.length());
            if (random.nextBoolean() && at < all.length()) {
                all.deleteCharAt(at);
            } else {
                all.insert(at, pick(" ", "\n", ";", "(", ")", "9", "0", "a", "east", "\u00ff", "\0",
                        " 7", " repeat", "400", "A", " town ", "00000"));
            }
        }
        return all.length() > MOST ? all.substring(0, MOST) : all.toString();
    }
}
