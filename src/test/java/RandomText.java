import java.util.Random;

/** Setup texts for the random runs: small towns in which walkers meet, wait and come too late. */
final class RandomText {
    private static final String[] PIECES = {
        " ", "  ", ";", "0", "1", "9", "99", "100", "12345678901234567890", "town", "street", "house", "walker", "cross",
        "gap", "visit", "dog", "call", "persons", "(", ")", "+", "-", "*", "/", "A", "\n", "\u00e4", "cat", "\t", "x",
        "cross 1;", "gap 1;", "visit 1;", "walker 0 0;", "((((", "))))", "1440", "1441",
    };

    private final Random random;
    private final StringBuilder text = new StringBuilder();

    RandomText(Random random) {
        this.random = random;
    }

    String whole() {
        int crossings = 2 + random.nextInt(random.nextInt(4) == 0 ? 9 : 4);
        int streets = 1 + random.nextInt(random.nextInt(4) == 0 ? 12 : 5);
        int houses = random.nextInt(random.nextInt(4) == 0 ? 17 : 8);
        int walkers = random.nextInt(10) == 0 ? 0 : 1 + random.nextInt(3);
        int[] lengths = new int[streets];
        put("town", crossings);
        end();
        settings();
        for (int i = 0; i < streets; i++) {
            int start = random.nextInt(crossings);
            lengths[i] = 1 + random.nextInt(random.nextInt(3) == 0 ? 99 : 12);
            put("street", start, (start + 1 + random.nextInt(crossings - 1)) % crossings, lengths[i]);
            end();
        }
        for (int i = 0; i < houses; i++) {
            int street = random.nextInt(streets);
            int from = random.nextInt(3) == 0 ? 0 : random.nextInt(250);
            int to = random.nextInt(3) == 0 ? 1440 : from + 1 + random.nextInt(120);
            put("house", street, random.nextInt(lengths[street] + 1), random.nextInt(2), random.nextInt(21), from, to);
            text.append(random.nextInt(4) == 0 ? "dog" : "");
            end();
        }
        for (int i = 0; i < walkers; i++) {
            put("walker", random.nextInt(crossings), random.nextInt(120));
            end();
        }
        return text.toString();
    }

    private void settings() {
        if (random.nextBoolean()) {
            put("cross", random.nextInt(10));
            end();
        }
        if (random.nextInt(4) > 0) {
            put("gap", random.nextInt(50));
            end();
        }
        if (random.nextInt(4) > 0) {
            text.append("visit");
            space();
            sum(0);
            end();
        }
    }

    private void sum(int depth) {
        factor(depth);
        int more = random.nextInt(4);
        for (int i = 0; i < more; i++) {
            text.append("+-*/".charAt(random.nextInt(4)));
            space();
            factor(depth);
        }
    }

    private void factor(int depth) {
        int kind = random.nextInt(6);
        if (kind == 0 && depth < 4) {
            text.append('(');
            sum(depth + 1);
            text.append(')');
        } else if (kind < 4) {
            text.append(new String[] {"persons", "dog", "call", "persons"}[kind]);
        } else {
            text.append(random.nextInt(6) == 0 ? random.nextInt(10000) : random.nextInt(12));
        }
        space();
    }

    private void put(String word, int... numbers) {
        space();
        text.append(word);
        for (int i = 0; i < numbers.length; i++) {
            text.append(i == 0 && random.nextInt(8) == 0 ? "" : " ");
            space();
            text.append(random.nextInt(30) == 0 ? "0" : "").append(numbers[i]);
        }
        space();
    }

    private void end() {
        text.append(';');
    }

    private void space() {
        if (random.nextInt(12) == 0) {
            text.append(random.nextBoolean() ? " " : "  ");
        }
    }

    /** A text with one or two places taken out, doubled, cut off or overwritten. */
    String spoiled() {
        StringBuilder spoiled = new StringBuilder(whole());
        for (int i = random.nextInt(2); i >= 0 && spoiled.length() > 0; i--) {
            int at = random.nextInt(spoiled.length());
            int to = Math.min(spoiled.length(), at + random.nextInt(6));
            switch (random.nextInt(5)) {
                case 0:
                    spoiled.delete(at, to);
                    break;
                case 1:
                    spoiled.insert(at, spoiled.substring(at, to));
                    break;
                case 2:
                    spoiled.setLength(at);
                    break;
                case 3:
                    spoiled.replace(at, to, PIECES[random.nextInt(PIECES.length)]);
                    break;
                default:
                    spoiled.insert(at, PIECES[random.nextInt(PIECES.length)]);
                    break;
            }
        }
        return spoiled.toString();
    }
}
