import java.util.Random;

/** Texts of both languages by draws: good ones, ones near the limits, and spoiled ones. */
final class Texts {
    private static final String[] LAW_WORDS = {"sitter", "other", "tier", "nation", "much", "wish", "minute", "mood"};
    private static final String[] PLAIN_ORDERS_WORDS = {"minute", "done", "latest", "inside", "pleased"};
    private static final String[] TOKENS = {
        "passes", "keeps", "leaves", "if", "or", "and", "not", "(", ")", "[", "]", "+", "-", "*", "/", "%", "<", ">", "=",
        ";", "seat", "at", "out", "swap", "with", "pass", "times", "is", "much", "0", "1", "20", "21", "1000", "1001",
        "00005", "99999999999999999999", "sitter", "minute", "done", "Is", "!", "\u00e9", "\n", "passe", "x"
    };

    private final Random random;
    private final boolean orders;
    private StringBuilder text;
    private int parts;
    private int brackets;

    Texts(Random random, boolean orders) {
        this.random = random;
        this.orders = orders;
    }

    String draw() {
        String made = drawGood();
        int spoil = random.nextInt(10);
        if (spoil == 0) {
            made = spoiled(made);
        } else if (spoil == 1) {
            made = made.substring(0, random.nextInt(made.length() + 1));
        }
        return made.length() > 400 ? made.substring(0, 400) : made;
    }

    private String drawGood() {
        text = new StringBuilder();
        parts = 0;
        brackets = 0;
        int clauses = random.nextInt(12) == 0 ? 11 + random.nextInt(4) : 1 + random.nextInt(4);
        for (int c = 0; c < clauses; c++) {
            if (c > 0) {
                say(";");
            }
            clause(clauses > 5 ? 0 : 2);
        }
        return text.toString();
    }

    private String spoiled(String made) {
        String[] tokens = made.trim().split(" +");
        tokens[random.nextInt(tokens.length)] = TOKENS[random.nextInt(TOKENS.length)];
        return String.join(" ", tokens);
    }

    private void say(String token) {
        boolean mustPart = text.length() > 0 && Character.isLetterOrDigit(text.charAt(text.length() - 1))
                && Character.isLetterOrDigit(token.charAt(0));
        boolean isWordThenDigit = mustPart && Character.isDigit(token.charAt(0))
                && Character.isLetter(text.charAt(text.length() - 1));
        if (mustPart && !(isWordThenDigit && random.nextBoolean()) || random.nextInt(6) == 0) {
            text.append(" ".repeat(1 + random.nextInt(8) / 7));
        }
        text.append(token);
    }

    private void clause(int size) {
        if (orders) {
            order(size);
        } else {
            rule(size);
        }
        if (random.nextInt(3) > 0) {
            say("if");
            test(size);
        }
    }

    private void rule(int size) {
        switch (random.nextInt(10)) {
            case 0:
            case 1:
                say("keeps");
                break;
            case 2:
                say("leaves");
                break;
            default:
                say("passes");
                sum(size);
        }
    }

    private void order(int size) {
        switch (random.nextInt(6)) {
            case 0:
            case 1:
                say("seat");
                small(6, size);
                say("at");
                small(9, size);
                break;
            case 2:
                say("out");
                small(6, size);
                break;
            case 3:
                say("swap");
                small(6, size);
                say("with");
                small(6, size);
                break;
            default:
                say("pass");
        }
        if (random.nextInt(4) == 0) {
            say("times");
            say("" + (1 + random.nextInt(20)));
        }
    }

    /** Mostly a number that can be a sitter, a seat: so that orders get on. */
    private void small(int below, int size) {
        if (random.nextInt(5) == 0) {
            sum(size);
        } else {
            say("" + random.nextInt(below));
        }
    }

    private void test(int size) {
        both(size);
        while (random.nextInt(4) == 0) {
            say("or");
            both(size);
        }
    }

    private void both(int size) {
        plain(size);
        while (random.nextInt(4) == 0) {
            say("and");
            plain(size);
        }
    }

    private void plain(int size) {
        int which = random.nextInt(8);
        if (which == 0) {
            say("not");
            plain(size);
        } else if (which == 1 && brackets < 9) {
            brackets++;
            say("(");
            test(size - 1);
            say(")");
            brackets--;
        } else {
            sum(size);
            say(new String[] {"<", ">", "="}[random.nextInt(3)]);
            sum(size);
        }
    }

    private void sum(int size) {
        term(size);
        while (random.nextInt(4) < Math.min(size, 2)) {
            say(random.nextBoolean() ? "+" : "-");
            term(size - 1);
        }
    }

    private void term(int size) {
        part(size);
        while (random.nextInt(5) < Math.min(size, 1)) {
            say(new String[] {"*", "/", "%"}[random.nextInt(3)]);
            part(size - 1);
        }
    }

    private void part(int size) {
        if (random.nextInt(12) == 0 && brackets < 9 && parts < 51) {
            brackets++;
            say("[");
            sum(size);
            say("]");
            brackets--;
            return;
        }
        parts++;
        if (random.nextInt(5) < 2) {
            say("" + number());
        } else if (!orders) {
            say(LAW_WORDS[random.nextInt(LAW_WORDS.length)]);
        } else if (random.nextBoolean()) {
            say(PLAIN_ORDERS_WORDS[random.nextInt(PLAIN_ORDERS_WORDS.length)]);
        } else {
            say(random.nextBoolean() ? "is" : "much");
            say("" + random.nextInt(6));
        }
    }

    private int number() {
        int[] bounds = {3, 10, 10, 30, 1001};
        return random.nextInt(bounds[random.nextInt(bounds.length)]);
    }
}
