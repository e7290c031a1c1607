import java.util.Random;

/** Laws and orders by chance, most of which can be read. The first sign tells which: L, O. */
final class TextsByChance {
    private static final String[] LAW_WORDS = {"fort", "men", "general", "known", "sign", "army", "belief", "end",
        "day", "mood"};
    private static final String[] STRANGE = {"", "", "x", "if", ";", "(", ")", "[", "]", "1001", "=", "not", "times",
        "end", "shown", "or", "+", "men", "fame 4", "turns", "show", "?", "and", "7", "\u00e9", "to"};

    private final Random random;
    private final StringBuilder all = new StringBuilder();
    private boolean law;

    TextsByChance(Random random) {
        this.random = random;
    }

    private int any(int n) {
        return random.nextInt(n);
    }

    String text() {
        for (int tries = 0; tries < 50; tries++) {
            String text = once();
            if (text.length() <= 401) {
                return text;
            }
        }
        return "Lbars";
    }

    private String once() {
        all.setLength(0);
        law = random.nextBoolean();
        int clauses = any(12) == 0 ? 11 + any(3) : 1 + any(5);
        for (int i = 0; i < clauses; i++) {
            if (i > 0) {
                all.append(';');
            }
            if (law) {
                lawClause(clauses > 6);
            } else {
                orderClause(clauses > 6);
            }
        }
        if (any(8) == 0) {
            spoil();
        }
        return (law ? "L" : "O") + all;
    }

    private void spoil() {
        int at = any(all.length() + 1);
        String strange = STRANGE[any(STRANGE.length)];
        if (any(3) == 0 && at < all.length()) {
            all.delete(at, Math.min(all.length(), at + 1 + any(8)));
        }
        all.insert(at, any(2) == 0 ? " " + strange + " " : strange);
    }

    private void lawClause(boolean shortly) {
        String[] heads = {"turns ", "pays ", "fame ", "bars "};
        int head = any(4);
        all.append(heads[head]);
        if (head < 3) {
            sum(shortly ? 0 : 2, 0);
        }
        if (any(2) == 0 && !shortly || head == 3) {
            all.append(" if ");
            test(shortly ? 0 : 2, 0);
        }
    }

    private void orderClause(boolean shortly) {
        int head = any(4);
        int fort = any(15) == 0 ? any(8) : any(3);
        switch (head) {
            case 0 -> all.append("show ").append(any(6)).append(" at ").append(fort);
            case 1 -> all.append("hide ").append(any(6)).append(" at ").append(fort);
            case 2 -> {
                all.append("man ").append(fort).append(" by ");
                sum(1, 1);
            }
            default -> {
                all.append("march ");
                sum(1, 1);
                all.append(" to ").append(fort);
            }
        }
        if (any(4) == 0) {
            all.append(" times ").append(any(30) == 0 ? any(30) : 1 + any(4));
        }
        if (head == 0) {
            all.append(" if shown ").append(Math.min(5, fort)).append("/").append(1 << any(6)).append("%2=0");
        } else if (any(3) == 0 && !shortly) {
            all.append(" if ");
            test(2, 0);
        }
    }

    private void sum(int deep, int brackets) {
        term(deep, brackets);
        while (any(3) == 0 && deep > 0) {
            all.append(any(2) == 0 ? " + " : "-");
            term(deep - 1, brackets);
        }
    }

    private void term(int deep, int brackets) {
        part(deep, brackets);
        while (any(4) == 0 && deep > 0) {
            all.append(any(5) < 3 ? "*" : any(2) == 0 ? " / " : "%");
            part(deep - 1, brackets);
        }
    }

    private void part(int deep, int brackets) {
        if (deep > 0 && any(6) == 0 || any(60) == 0) {
            int many = any(25) == 0 ? 8 + any(2) : 1;
            all.append("[".repeat(many));
            sum(deep - 1, brackets + many);
            all.append("]".repeat(many));
        } else if (any(2) == 0) {
            int kind = any(8);
            all.append(kind == 0 ? 1000 : kind < 3 ? any(100) : any(12));
        } else if (law) {
            all.append(LAW_WORDS[any(LAW_WORDS.length)]);
        } else {
            switch (any(6)) {
                case 0 -> all.append("day");
                case 1 -> all.append("done");
                case 2 -> all.append("latest");
                case 3 -> all.append("men ").append(any(6));
                case 4 -> all.append("shown ").append(any(6));
                default -> all.append("fame ").append(any(4));
            }
        }
    }

    private void test(int deep, int brackets) {
        plain(deep, brackets);
        while (any(3) == 0 && deep > 0) {
            all.append(any(2) == 0 ? " or " : " and ");
            plain(deep - 1, brackets);
        }
    }

    private void plain(int deep, int brackets) {
        if (any(6) == 0) {
            all.append(" not ");
        }
        if (deep > 0 && any(5) == 0) {
            int many = any(25) == 0 ? 7 + any(3) : 1;
            all.append("(".repeat(many));
            test(deep - 1, brackets + many);
            all.append(")".repeat(many));
            return;
        }
        sum(deep - 1, brackets);
        all.append("<>=".charAt(any(3)));
        sum(deep - 1, brackets);
    }
}
