import java.util.Random;

/** Draws texts: most of them sound, some with a fault put in. */
final class TextDraw {
    private static final String[] WORDS = {"hour", "phase", "size", "steps", "kind", "height", "at", "silver", "bed",
        "mood", "who", "shines", "pays", "kicks", "cell", "beast", "lodge", "out", "lead", "of", "to", "mean", "with",
        "light", "if", "then", "else", "end", "or", "and", "not", "<", "<=", ">", ">=", "=", "#", "+", "-", "*", "/",
        "(", ")", ";", "0", "7", "29", "30", "9999", "10000", "99999999999", "Pays", "lights", "!", "\t", "\u00e9"};
    private static final String[] SIGNS = {"<", "<=", ">", ">=", "=", "#"};

    private final Random draw;
    private final StringBuilder out = new StringBuilder();
    private String law = "";

    TextDraw(Random draw) {
        this.draw = draw;
    }

    String text() {
        int kind = draw.nextInt(20);
        if (kind == 0) {
            return manyClauses();
        }
        String whole = kind == 1 ? deep() : clauses();
        if (draw.nextInt(3) == 0) {
            whole = spoiled(whole);
        }
        return whole.length() > 300 ? whole.substring(0, 300) : whole;
    }

    private String manyClauses() {
        StringBuilder text = new StringBuilder();
        for (int i = 22 + draw.nextInt(5); i > 0; i--) {
            text.append(draw.nextInt(9) == 0 ? "hour 1;" : "out;");
        }
        if (draw.nextInt(2) == 0) {
            text.append(WORDS[draw.nextInt(WORDS.length)]);
        }
        return text.toString();
    }

    private String deep() {
        law = new String[] {"shines", "pays", "kicks"}[draw.nextInt(3)];
        out.append(law).append(' ');
        for (int i = 4 + draw.nextInt(7); i > 0; i--) {
            out.append(new String[] {"(", "-", "light ", "mean ", "if not 1<2 and ", "if ", "1+mean 1 with ", "mean(1)with"}
                    [draw.nextInt(8)]);
        }
        out.append("1");
        for (int i = draw.nextInt(6); i > 0; i--) {
            out.append(new String[] {")", " with 2", "<3 then 4 else 5 end", ";"}[draw.nextInt(4)]);
        }
        return out.append(";").toString();
    }

    private String clauses() {
        for (int i = draw.nextInt(7); i > 0 && out.length() < 260; i--) {
            clause();
        }
        return out.toString();
    }

    private void clause() {
        switch (draw.nextInt(11)) {
            case 0:
            case 1:
                lawOf("shines");
                break;
            case 2:
                lawOf("pays");
                break;
            case 3:
                lawOf("kicks");
                break;
            case 4:
                put("cell").put(draw.nextInt(30)).put("kind").put(draw.nextInt(4)).put(";");
                break;
            case 5:
                put("height").put(draw.nextInt(10)).put("of").put(draw.nextInt(30)).put(";");
                break;
            case 6:
                put("beast").put(draw.nextInt(30)).put("mood").put(draw.nextInt(10)).put(";");
                break;
            case 7:
                put("lodge").put(draw.nextInt(30)).put(";");
                break;
            case 8:
                put("out").put(";");
                break;
            case 9:
                put("lead").put(draw.nextInt(5)).put("to").put(draw.nextInt(30)).put(";");
                break;
            default:
                put("hour").put(1 + draw.nextInt(60)).put(";");
                break;
        }
    }

    private void lawOf(String which) {
        if (out.indexOf(which) >= 0 && draw.nextInt(8) > 0) {
            return;
        }
        law = which;
        put(which);
        sum(0);
        put(";");
    }

    private void sum(int deep) {
        product(deep);
        for (int i = draw.nextInt(deep > 2 ? 1 : 3); i > 0; i--) {
            put(draw.nextBoolean() ? "+" : "-");
            product(deep);
        }
    }

    private void product(int deep) {
        one(deep);
        for (int i = draw.nextInt(deep > 2 ? 1 : 6) / 3; i > 0; i--) {
            put(draw.nextBoolean() ? "*" : "/");
            one(deep);
        }
    }

    private void one(int deep) {
        int kind = deep > 4 ? draw.nextInt(4) : draw.nextInt(10);
        if (kind < 2) {
            put(draw.nextInt(6) == 0 ? draw.nextInt(10000) : draw.nextInt(12));
        } else if (kind < 5) {
            put(name());
        } else if (kind == 5) {
            put("(");
            sum(deep + 1);
            put(")");
        } else if (kind == 6) {
            put("-");
            one(deep + 1);
        } else if (kind == 7) {
            put("mean");
            one(deep + 1);
            put("with");
            one(deep + 1);
        } else if (kind == 8 && !law.equals("shines")) {
            put("light");
            one(deep + 1);
        } else {
            put("if");
            either(deep + 1);
            put("then");
            sum(deep + 1);
            put("else");
            sum(deep + 1);
            put("end");
        }
    }

    private String name() {
        String[] names = {"hour", "phase", "size"};
        switch (law) {
            case "shines":
                names = new String[] {"hour", "phase", "size", "steps", "steps", "kind", "height", "at", "size"};
                break;
            case "pays":
                names = new String[] {"hour", "phase", "size", "silver", "bed"};
                break;
            default:
                names = new String[] {"hour", "phase", "size", "mood", "who", "at"};
                break;
        }
        return draw.nextInt(60) == 0 ? WORDS[draw.nextInt(11)] : names[draw.nextInt(names.length)];
    }

    private void either(int deep) {
        both(deep);
        if (draw.nextInt(5) == 0) {
            put("or");
            both(deep);
        }
    }

    private void both(int deep) {
        ask(deep);
        if (draw.nextInt(5) == 0) {
            put("and");
            ask(deep);
        }
    }

    private void ask(int deep) {
        if (draw.nextInt(6) == 0) {
            put("not");
            ask(deep + 1);
            return;
        }
        sum(deep + 1);
        put(SIGNS[draw.nextInt(SIGNS.length)]);
        sum(deep + 1);
    }

    private TextDraw put(int number) {
        return put(Integer.toString(number));
    }

    private TextDraw put(String token) {
        boolean mustPart = out.length() > 0 && isSolid(out.charAt(out.length() - 1)) && isSolid(token.charAt(0));
        if (mustPart || draw.nextInt(6) == 0) {
            out.append(draw.nextInt(5) == 0 ? '\n' : ' ');
        }
        out.append(token);
        return this;
    }

    private static boolean isSolid(char c) {
        return Character.isLetterOrDigit(c);
    }

    private String spoiled(String text) {
        int at = draw.nextInt(text.length() + 1);
        int to = Math.min(text.length(), at + draw.nextInt(4));
        String word = WORDS[draw.nextInt(WORDS.length)];
        switch (draw.nextInt(4)) {
            case 0:
                return text.substring(0, at) + text.substring(to);
            case 1:
                return text.substring(0, at) + " " + word + " " + text.substring(at);
            case 2:
                return text.substring(0, at) + (char) draw.nextInt(256) + text.substring(at);
            default:
                return text.substring(0, at);
        }
    }
}
