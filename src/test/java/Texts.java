import java.util.ArrayList;
import java.util.List;

/** Texts that come by chance, but the same ones in each run: most are sound, or nearly so. */
final class Texts {
    private static final String[] NAMES = {"a", "b", "c", "l", "ab", "x", "abcdef"};
    private static final String[] MACROS = {"f", "g", "a", "ff"};
    private static final String[] SIGNS = {"+", "-", "*", "!", "#", "/"};
    private static final String[] SOUP = {"let ", "op ", "pre ", "mac ", "a", "b", "f(", "f()", "a,b", "1", "2", "5", "05",
        "l", "r", "n", "+", "-", "*", "!", "#", "=", ";", ",", "(", ")", "{", "}", "^", "^a", " ", "\n", "abcdefg",
        "1234567890", "let a=", "op ! 5 n (a,b)=", "pre ! 3 (a)=", "mac f(a)=", "(a,b)=", "A", "_"};

    private long state;
    private StringBuilder out;
    private List<String> names = new ArrayList<>();
    private List<String> lets = new ArrayList<>();
    private List<String> macros = new ArrayList<>();
    private List<String> between = new ArrayList<>();
    private List<String> ahead = new ArrayList<>();
    private int making;
    private int slips;

    Texts(long seed) {
        state = seed;
    }

    int below(int bound) {
        state = state * 6364136223846793005L + 1442695040888963407L;
        return (int) ((state >>> 33) % bound);
    }

    private String one(String[] of) {
        return of[below(of.length)];
    }

    private String one(List<String> of) {
        return of.get(below(of.size()));
    }

    String next() {
        int mode = below(20);
        if (mode == 0) {
            return soup();
        }
        if (mode <= 2) {
            return great();
        }
        slips = mode <= 6 ? 60 : 1000000;
        String text = grown();
        return mode >= 7 && mode <= 9 ? changed(text) : text;
    }

    private String soup() {
        StringBuilder text = new StringBuilder();
        int count = 1 + below(20);
        for (int i = 0; i < count; i++) {
            text.append(one(SOUP));
        }
        return cut(text.toString());
    }

    private static String cut(String text) {
        return text.length() > 120 ? text.substring(0, 120) : text;
    }

    private String changed(String text) {
        StringBuilder changed = new StringBuilder(text);
        int count = 1 + below(2);
        for (int i = 0; i < count; i++) {
            int place = below(changed.length() + 1);
            if (place < changed.length() && below(2) == 0) {
                changed.deleteCharAt(place);
            }
            if (below(2) == 0) {
                changed.insert(place, one(SOUP));
            }
        }
        return cut(changed.toString());
    }

    /** Macros that use one another, so that the expansion comes near what is too great. */
    private String great() {
        StringBuilder text = new StringBuilder();
        int count = 2 + below(4);
        String[] bodies = {"x+x", "{x;x}", "x", "{let a=x;a}", "x*x+x", "{x;x;x}", "1", "{mac z()=x;z()}"};
        for (int i = 0; i < count; i++) {
            String body = one(bodies);
            if (i > 0 && below(3) > 0) {
                String other = "fgabc".substring(i - 1, i);
                body = below(2) == 0 ? other + "(" + other + "(x))" : other + "(x)+" + other + "(x)";
            }
            text.append("mac ").append("fgabc".charAt(i)).append("(x)=").append(body).append(';');
        }
        String use = "1";
        for (int depth = 1 + below(8); depth > 0; depth--) {
            use = "fgabc".charAt(below(count)) + "(" + use + ")";
        }
        return cut(text.append(use).toString());
    }

    private String grown() {
        for (int tries = 0; tries < 50; tries++) {
            out = new StringBuilder();
            names.clear();
            lets.clear();
            macros.clear();
            between = new ArrayList<>(List.of("+", "-", "*"));
            ahead.clear();
            making = 0;
            growStatements(2 + below(6), 2);
            if (out.length() <= 120 && out.length() >= 10) {
                return out.toString();
            }
        }
        return cut(out.toString());
    }

    private void put(String token) {
        int blank = below(40);
        if (blank == 0) {
            out.append(' ');
        } else if (blank == 1) {
            out.append('\n');
        }
        if (out.length() > 0 && isWordEnd(out.charAt(out.length() - 1)) && isWordEnd(token.charAt(0))) {
            out.append(' ');
        }
        out.append(token);
    }

    private static boolean isWordEnd(char c) {
        return c >= 'a' && c <= 'z' || c >= '0' && c <= '9';
    }

    private boolean slips() {
        return below(slips) == 0;
    }

    private void growStatements(int count, int depth) {
        int[] sizes = {names.size(), lets.size(), macros.size(), between.size(), ahead.size()};
        for (int i = 0; i < count; i++) {
            if (i > 0) {
                put(";");
            }
            growStatement(depth, i == count - 1);
        }
        shrink(names, sizes[0]);
        shrink(lets, sizes[1]);
        shrink(macros, sizes[2]);
        shrink(between, sizes[3]);
        shrink(ahead, sizes[4]);
    }

    private static void shrink(List<String> list, int size) {
        while (list.size() > size) {
            list.remove(list.size() - 1);
        }
    }

    private void growStatement(int depth, boolean isLast) {
        int kind = below(isLast ? 24 : 16);
        if (kind == 0 && !isLast) {
            return;
        }
        if (kind < 4) {
            String name = one(NAMES);
            put("let");
            put(name);
            put("=");
            growExpression(depth);
            names.add(name);
            lets.add(name);
        } else if (kind < 7) {
            growMacro(depth);
        } else if (kind < 10) {
            growSign(depth, "op");
        } else if (kind < 12) {
            growSign(depth, "pre");
        } else {
            growExpression(depth);
        }
    }

    private void growMacro(int depth) {
        String name = one(MACROS);
        int count = below(4);
        put("mac");
        put(name);
        growBody(count, depth);
        macros.add(name + "/" + count);
    }

    private void growSign(int depth, String word) {
        String sign = one(SIGNS);
        put(word);
        put(sign);
        put(String.valueOf(below(4) == 0 ? 1 + below(9) : 4 + below(3)));
        if (word.equals("op")) {
            put(String.valueOf("lrn".charAt(below(3))));
        }
        growBody(word.equals("op") ? 2 : 1, depth);
        (word.equals("op") ? between : ahead).add(sign);
    }

    private void growBody(int count, int depth) {
        int size = names.size();
        put("(");
        List<String> own = new ArrayList<>();
        for (int i = 0; i < count; i++) {
            String name = one(NAMES);
            while (own.contains(name) && !slips()) {
                name = one(NAMES);
            }
            own.add(name);
            if (i > 0) {
                put(",");
            }
            put(name);
        }
        names.addAll(own);
        put(")");
        put("=");
        making++;
        growExpression(depth);
        making--;
        shrink(names, size);
    }

    private void growExpression(int depth) {
        int more = below(5);
        growPart(depth);
        for (; more > 2; more--) {
            put(slips() ? one(SIGNS) : one(between));
            growPart(depth);
        }
    }

    private void growPart(int depth) {
        int kind = below(depth > 0 ? 16 : 9);
        if (kind < 5 && !names.isEmpty()) {
            put(slips() ? one(NAMES) : one(names));
        } else if (kind == 5 && making > 0 && !lets.isEmpty()) {
            put("^");
            put(below(5) == 0 ? one(NAMES) : one(lets));
        } else if (kind < 9) {
            put(below(20) == 0 ? "987654321" : below(20) == 0 ? "007" : String.valueOf(below(13)));
        } else if (kind < 11 && !macros.isEmpty()) {
            growUse(depth);
        } else if (kind < 13 && !ahead.isEmpty()) {
            put(one(ahead));
            growPart(depth - 1);
        } else if (kind < 14) {
            put("(");
            growExpression(depth - 1);
            put(")");
        } else {
            put("{");
            growStatements(1 + below(3), depth - 1);
            put("}");
        }
    }

    private void growUse(int depth) {
        String[] macro = one(macros).split("/");
        int count = Integer.parseInt(macro[1]);
        if (slips()) {
            count = below(4);
        }
        put(macro[0]);
        put("(");
        for (int i = 0; i < count; i++) {
            if (i > 0) {
                put(",");
            }
            growExpression(depth - 1);
        }
        put(")");
    }
}
