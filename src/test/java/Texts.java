/** Writes setups and scripts by dice, most of them right, some with a fault. */
final class Texts {
    private static final String[] NAMES = {"red", "blue", "green", "x", "whiteish", "mint", "re", "gold"};
    private static final String SIGNS = "abcdez0123456789;;;;(()) \n,.-A{`/:\t\0\u00e9";

    private final Dice dice;
    private int colors;
    private int commands;

    Texts(Dice dice) {
        this.dice = dice;
    }

    // ---- setups

    String setup() {
        String[] parts = new String[40];
        int count = 0;
        colors = dice.once(12) ? 0 : dice.between(1, 5);
        for (int i = 0; i < colors; i++) {
            parts[count++] = "color " + NAMES[i] + " change " + price();
        }
        int lanes = dice.once(12) ? 0 : dice.between(1, 4);
        for (int i = 0; i < lanes; i++) {
            parts[count++] = "lane " + dice.between(1, 6);
        }
        int cars = colors == 0 ? 0 : dice.once(3) ? 12 : dice.between(0, 12);
        int bodies = dice.between(0, 3);
        for (int i = 0; i < cars; i++) {
            parts[count++] = car(bodies);
        }
        count = options(parts, count);
        StringBuilder text = new StringBuilder();
        for (int i = 0; i < count; i++) {
            text.append(parts[i]).append(";");
        }
        return spaced(text.toString());
    }

    private String car(int bodies) {
        String bad = dice.once(4) ? " bad " + dice.between(0, 2) : "";
        return "car " + NAMES[dice.below(colors)] + " body " + dice.between(0, bodies) + bad;
    }

    private int options(String[] parts, int count) {
        int next = count;
        if (dice.once(2)) {
            int widest = dice.once(2) ? 11 : 4;
            parts[next++] = "window " + dice.between(0, widest) + " " + dice.between(0, widest);
        }
        if (dice.once(2)) {
            parts[next++] = "batch " + dice.between(1, dice.once(2) ? 9 : 3) + " purge " + price();
        }
        if (dice.once(2)) {
            parts[next++] = "rework " + dice.between(0, 3) + " delay " + dice.between(0, 9);
        }
        if (dice.once(2)) {
            parts[next++] = "span " + dice.between(0, dice.once(2) ? 11 : 3);
        }
        return next;
    }

    private int price() {
        return dice.once(3) ? dice.between(0, 99) : dice.between(0, 4);
    }

    // ---- scripts

    String script() {
        commands = 0;
        StringBuilder text = new StringBuilder();
        int length = dice.once(20) ? 42 : dice.between(0, 8);
        addCommands(text, length, 0);
        return spaced(text.toString());
    }

    private void addCommands(StringBuilder text, int length, int depth) {
        for (int i = 0; i < length && commands < 44; i++) {
            commands++;
            if (dice.once(6) && depth < (dice.once(20) ? 3 : 2)) {
                text.append("repeat ").append(dice.between(1, dice.once(3) ? 20 : 4)).append(" (");
                addCommands(text, dice.between(0, 4), depth + 1);
                text.append(")");
            } else {
                text.append(command());
            }
            text.append(";");
        }
    }

    private String command() {
        switch (dice.below(12)) {
            case 0: return "leave " + dice.between(0, 3);
            case 1: return "back " + dice.between(0, 3);
            case 2: return "wait " + dice.between(1, dice.once(9) ? 99 : 5);
            case 3: return "unload";
            case 4: return "swap";
            case 5:
            case 6:
            case 7: return "step " + dice.between(1, dice.once(9) ? 99 : 4);
            default: return "enter " + dice.between(0, 2);
        }
    }

    // ---- faults and spaces

    /** Puts blanks between tokens, and takes some away where none is needed. */
    private String spaced(String text) {
        StringBuilder spaced = new StringBuilder();
        int style = dice.below(3);
        for (int i = 0; i < text.length(); i++) {
            char sign = text.charAt(i);
            boolean needed = i > 0 && i + 1 < text.length()
                    && Character.isLetter(text.charAt(i - 1)) == Character.isLetter(text.charAt(i + 1));
            if (sign != ' ' || needed || style > 0) {
                spaced.append(sign == ' ' && style == 2 && dice.once(3) ? "\n " : String.valueOf(sign));
            }
            if (sign == ';' && style == 1) {
                spaced.append(dice.one("", " ", "\n"));
            }
        }
        return spaced.toString();
    }

    String faulty(String text) {
        StringBuilder changed = new StringBuilder(text);
        int faults = dice.between(1, 2);
        for (int i = 0; i < faults; i++) {
            int at = dice.below(changed.length() + 1);
            switch (dice.below(7)) {
                case 0:
                    changed.setLength(at);
                    break;
                case 1:
                    changed.insert(at, SIGNS.charAt(dice.below(SIGNS.length())));
                    break;
                case 2:
                    changed.insert(at, dice.one("span 3;", "window 1 2;", "batch 2 purge 3;",
                            "rework 1 delay 2;", "lane 3;", "color red change 1;", "car x body 1;",
                            "repeat 2 (", ");", "step 5;", "color span change 2;", "car lane body 2;"));
                    break;
                case 3:
                    changed.insert(at, dice.one("100", "99", "12", "0", "007", "0001", "abcdefghi"));
                    break;
                default:
                    if (at < changed.length()) {
                        exchange(changed, at);
                    }
                    break;
            }
        }
        return changed.toString();
    }

    private void exchange(StringBuilder text, int at) {
        if (dice.once(2)) {
            text.deleteCharAt(at);
        } else {
            text.setCharAt(at, SIGNS.charAt(dice.below(SIGNS.length())));
        }
    }
}
