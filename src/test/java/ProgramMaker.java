import java.util.Random;

/** Writes programs that keep to the grammar, but may come to every trouble or run on without an end. */
final class ProgramMaker {
    private final Random random;
    private final StringBuilder text = new StringBuilder();
    private String defined = "";
    private int statementsLeft;

    ProgramMaker(Random random) {
        this.random = random;
        this.statementsLeft = 1 + random.nextInt(25);
    }

    String program() {
        while (statementsLeft > 0) {
            if (random.nextInt(6) == 0 && defined.length() < 4) {
                definition();
            } else {
                statement(0);
            }
        }
        return text.toString();
    }

    private void definition() {
        char name = (char) ('A' + defined.length());
        word(String.valueOf(name));
        block(1);
        defined += name;
    }

    private void block(int depth) {
        word("{");
        for (int k = random.nextInt(4); k > 0 && statementsLeft > 0; k--) {
            statement(depth);
        }
        word("}");
    }

    private void statement(int depth) {
        statementsLeft--;
        int kind = random.nextInt(depth < 5 ? 12 : 8);
        if (kind < 4) {
            word(name());
            word("=");
            endedExpression(";");
        } else if (kind < 6) {
            word("@");
            factor(1);
            word("=");
            endedExpression(";");
        } else if (kind < 7 || kind < 8 && defined.isEmpty()) {
            word("!");
            endedExpression(";");
        } else if (kind < 8) {
            word(String.valueOf(defined.charAt(random.nextInt(defined.length()))));
            word(";");
        } else if (kind < 10) {
            choice(depth);
        } else {
            loop(depth);
        }
    }

    private void choice(int depth) {
        word("?");
        expression(2);
        block(depth + 1);
        if (random.nextBoolean()) {
            word(":");
            block(depth + 1);
        }
    }

    private void loop(int depth) {
        word("*");
        if (random.nextInt(3) > 0) {
            word(name());
            word("<");
            word(String.valueOf(1 + random.nextInt(4)));
        } else {
            expression(1);
        }
        block(depth + 1);
    }

    private void endedExpression(String end) {
        expression(3);
        word(end);
    }

    private void expression(int depth) {
        sum(depth);
        if (random.nextInt(5) == 0) {
            word(random.nextBoolean() ? "<" : "=");
            sum(depth);
        }
    }

    private void sum(int depth) {
        term(depth);
        while (random.nextInt(5) < 2) {
            word(random.nextBoolean() ? "+" : "-");
            term(depth);
        }
    }

    private void term(int depth) {
        factor(depth);
        while (random.nextInt(4) == 0) {
            word(String.valueOf("**/%".charAt(random.nextInt(4))));
            factor(depth);
        }
    }

    private void factor(int depth) {
        int kind = random.nextInt(depth > 0 ? 20 : 14);
        if (kind < 7) {
            word(number());
        } else if (kind < 13) {
            word(name());
        } else if (kind < 14) {
            word("#");
        } else if (kind < 16) {
            word("-");
            factor(depth - 1);
        } else if (kind < 18) {
            word("@");
            factor(depth - 1);
        } else {
            word("(");
            expression(depth - 1);
            word(")");
        }
    }

    private String number() {
        switch (random.nextInt(12)) {
            case 0:
                return "2147483647";
            case 1:
                return "0" + random.nextInt(3);
            case 2:
                return String.valueOf(95 + random.nextInt(6));
            default:
                return String.valueOf(random.nextInt(6));
        }
    }

    private String name() {
        return String.valueOf((char) ('a' + random.nextInt(4)));
    }

    private void word(String word) {
        text.append(word);
        if (random.nextInt(8) == 0) {
            text.append(random.nextBoolean() ? ' ' : '\n');
        }
    }
}
