/** Makes law texts, most of them sound, from a row of numbers that is always the same. */
final class Laws {
    private static final String[] FACTS = {"n", "price", "paid", "keeps", "estate", "has", "sale", "gift", "swap", "need", "holds", "owns", "degree", "day"};
    private static final String[] WHOS = {"kin", "share", "side", "water"};
    private static final String[] FORMS = {"sale", "gift", "swap"};
    private static final String[] ODD = {"not", "(", ")", ";", "when", "first", "free", "maybe", "price", "parts", "told", "within", "on", "1000", "99999", "abcdefghi", "sale", "kin", "<", "=", "and", "+", "?", "N", "or", "7x"};
    private static final String[] MOVING = {"n", "keeps", "estate", "has", "owns", "holds", "price", "degree", "keeps + n", "estate - keeps", "n*n"};
    private static final String[] AGAIN = {" sale sale ", "price paid;price told;", "parts heads;parts shares;", " within 1000", " within 0999;", "not not not not not 1", "(((((n)))))", "not(not(not 1))"};
    private long state;

    Laws(long seed) {
        state = seed * 2862933555777941757L + 3037000493L;
    }

    int below(int bound) {
        state = state * 6364136223846793005L + 1442695040888963407L;
        return (int) ((state >>> 33) % bound);
    }

    boolean chance(int percent) {
        return below(100) < percent;
    }

    String pick(String[] of) {
        return of[below(of.length)];
    }

    String law(int most) {
        StringBuilder text = new StringBuilder();
        int lines = below(most + 1);
        for (int i = 0; i < lines; i++) {
            text.append(line());
        }
        if (chance(40)) {
            text.append(chance(50) ? "price paid;" : "price told;");
        }
        if (chance(40)) {
            text.append(chance(60) ? "parts shares;" : "parts heads;");
        }
        return text.toString();
    }

    private String line() {
        StringBuilder text = new StringBuilder(chance(35) ? "maybe " : "");
        if (chance(12)) {
            return text.append("free when ").append(chance(50) ? threshold() : expression(0)).append(";").toString();
        }
        text.append("first ").append(pick(WHOS)).append(" on");
        int forms = chance(60) ? 7 : 1 + below(7);
        for (int f = 0; f < 3; f++) {
            if ((forms >> f & 1) != 0) {
                text.append(' ').append(FORMS[f]);
            }
        }
        text.append(" within ").append(chance(80) ? below(12) : below(1000));
        if (chance(60)) {
            text.append(" when ").append(chance(60) ? threshold() : expression(0));
        }
        return text.append(chance(20) ? " ;\n" : ";").toString();
    }

    /** Conditions that are now so, now not, while an owner's twelfths go over one by one. */
    private String threshold() {
        String fact = pick(MOVING);
        String text = chance(50) ? below(13) + "<" + fact : fact + "<" + below(13);
        if (chance(30)) {
            text = fact + " = " + below(13);
        }
        return chance(30) ? text + (chance(50) ? " and " : " or ") + threshold() : chance(20) ? "not (" + text + ")" : text;
    }

    private String expression(int deep) {
        String text = test(deep);
        while (chance(25)) {
            text += (chance(50) ? " and " : " or ") + test(deep);
        }
        return text;
    }

    private String test(int deep) {
        String text = sum(deep);
        return chance(65) ? text + (chance(70) ? "<" : " = ") + sum(deep) : text;
    }

    private String sum(int deep) {
        String text = product(deep);
        while (chance(20)) {
            text += (chance(50) ? "+" : " - ") + product(deep);
        }
        return text;
    }

    private String product(int deep) {
        String text = piece(deep);
        while (chance(12)) {
            text += "*" + piece(deep);
        }
        return text;
    }

    private String piece(int deep) {
        if (deep < 5 && chance(10)) {
            return "not " + piece(deep + 1);
        }
        if (deep < 5 && chance(12)) {
            return "(" + expression(deep + 1) + ")";
        }
        return chance(30) ? Integer.toString(chance(80) ? below(14) : below(10000)) : pick(FACTS);
    }

    String spoilt(String law) {
        StringBuilder text = new StringBuilder(law);
        int times = 1 + below(2);
        for (int i = 0; i < times; i++) {
            int at = below(text.length() + 1);
            switch (below(5)) {
                case 0:
                    text.insert(at, " " + pick(ODD) + " ");
                    break;
                case 4:
                    text.insert(at, pick(AGAIN));
                    break;
                case 1:
                    text.setLength(at);
                    break;
                case 2:
                    if (at < text.length()) {
                        text.deleteCharAt(at);
                    }
                    break;
                default:
                    if (at < text.length()) {
                        text.setCharAt(at, (char) (32 + below(95)));
                    }
                    break;
            }
        }
        return text.toString();
    }
}
