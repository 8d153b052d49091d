import java.util.ArrayList;
import java.util.HashSet;
import java.util.List;
import java.util.Set;

/** The language once more, read by recursion, with nothing shared with the class that is tested. */
final class Model {
    static final class Fault extends RuntimeException {
        final int kind;
        final int place;

        Fault(int kind, int place) {
            super(null, null, false, false);
            this.kind = kind;
            this.place = place;
        }
    }

    private static final class Token {
        String kind;
        String text;
        int begin;
        Made meaning;
        Scope scope;
    }

    private static final class Made {
        char space;
        String key;
        int token = -1;
        boolean parameter;
        int precedence;
        char side;
        List<Made> parameters = new ArrayList<>();
        List<String> carets = new ArrayList<>();
        Node body;
    }

    private static final class Scope {
        final Made made;
        final Scope up;

        Scope(Made made, Scope up) {
            this.made = made;
            this.up = up;
        }
    }

    private static final class Node {
        char kind;
        long number;
        String key;
        Made made;
        List<Node> parts = new ArrayList<>();

        Node(char kind) {
            this.kind = kind;
        }
    }

    /** What a made thing is bound to while expanding. */
    private static final class Env {
        final Env up;
        final Made made;
        String name;
        long value;
        Node part;
        Env site;

        Env(Env up, Made made) {
            this.up = up;
            this.made = made;
        }
    }

    final String text;
    final int fault;
    final int faultPlace;
    long value;
    int parts;
    String expansion = "";
    private final List<Token> tokens = new ArrayList<>();
    private int realTokens;
    private final List<String> behindCarets = new ArrayList<>();
    private int here;
    private Scope scope;
    private Scope blockScope;
    private final List<Made> owners = new ArrayList<>();
    private StringBuilder out = new StringBuilder();
    private int useCount;
    private int letCount;

    Model(String text) {
        this.text = text;
        int kind = 0;
        int place = -1;
        try {
            findTokens();
            hold(plain('+', 5));
            hold(plain('-', 5));
            hold(plain('*', 6));
            Node root = readStatements("end");
            value = expandStatements(root, null);
            expansion = out.toString();
        } catch (Fault found) {
            kind = found.kind;
            place = found.place;
        }
        fault = kind;
        faultPlace = place;
    }

    // ---- tokens

    private void findTokens() {
        int at = 0;
        while (true) {
            while (at < text.length() && (text.charAt(at) == 32 || text.charAt(at) == 10)) {
                at++;
            }
            Token token = new Token();
            token.begin = at;
            tokens.add(token);
            if (at == text.length()) {
                token.kind = "end";
                token.text = "";
                break;
            }
            int end = at + 1;
            char c = text.charAt(at);
            if (low(c)) {
                while (end < text.length() && low(text.charAt(end))) {
                    end++;
                }
                token.text = text.substring(at, end);
                boolean word = List.of("let", "op", "pre", "mac").contains(token.text);
                token.kind = end - at > 6 ? "stray" : word ? token.text : "name";
            } else if (digit(c)) {
                while (end < text.length() && digit(text.charAt(end))) {
                    end++;
                }
                token.text = text.substring(at, end);
                token.kind = end - at > 9 ? "stray" : "number";
            } else {
                token.text = String.valueOf(c);
                token.kind = "+-*!#$%&?@~|:<>./".indexOf(c) >= 0 ? "sign"
                        : "=;,(){}^".indexOf(c) >= 0 ? token.text : "stray";
            }
            if (token.kind.equals("stray")) {
                break;
            }
            realTokens++;
            at = end;
        }
    }

    private static boolean low(char c) {
        return c >= 'a' && c <= 'z';
    }

    private static boolean digit(char c) {
        return c >= '0' && c <= '9';
    }

    // ---- reading

    private static Made plain(char sign, int precedence) {
        Made made = new Made();
        made.space = 'b';
        made.key = String.valueOf(sign);
        made.precedence = precedence;
        made.side = 'l';
        return made;
    }

    private void hold(Made made) {
        scope = new Scope(made, scope);
    }

    private Token token() {
        return tokens.get(here);
    }

    private boolean is(String kind) {
        return token().kind.equals(kind);
    }

    private Token next() {
        token().scope = scope;
        return tokens.get(here++);
    }

    private Fault wrong() {
        return new Fault(1, token().begin);
    }

    private Token need(String kind) {
        if (!is(kind)) {
            throw wrong();
        }
        return next();
    }

    private Made find(char space, String key) {
        for (Scope s = scope; s != null; s = s.up) {
            if (s.made.space == space && s.made.key.equals(key)) {
                return s.made;
            }
        }
        return null;
    }

    private Made findLet(String key) {
        for (Scope s = scope; s != null; s = s.up) {
            if (s.made.space == 'n' && !s.made.parameter && s.made.key.equals(key)) {
                return s.made;
            }
        }
        return null;
    }

    private Node readStatements(String closing) {
        Scope outer = scope;
        Scope outerBlock = blockScope;
        blockScope = scope;
        Node block = new Node('{');
        while (true) {
            if (!is(";") && !is(closing)) {
                block.parts.add(readStatement());
            }
            if (is(closing)) {
                break;
            }
            need(";");
        }
        next();
        here -= closing.equals("end") ? 1 : 0;
        scope = outer;
        blockScope = outerBlock;
        return block;
    }

    private Node readStatement() {
        if (is("let")) {
            next();
            Made made = readMade("name", 'n');
            need("=");
            Node let = new Node('l');
            let.made = made;
            let.parts.add(expression(1));
            hold(made);
            return let;
        }
        if (is("op") || is("pre") || is("mac")) {
            return readMaking();
        }
        return expression(1);
    }

    private Node readMaking() {
        String word = next().kind;
        char space = word.equals("op") ? 'b' : word.equals("pre") ? 'a' : 'm';
        Made made = readMade(space == 'm' ? "name" : "sign", space);
        if (space != 'm') {
            if (!is("number") || Long.parseLong(token().text) < 1 || Long.parseLong(token().text) > 9) {
                throw wrong();
            }
            made.precedence = Integer.parseInt(next().text);
        }
        if (space == 'b') {
            if (!is("name") || !List.of("l", "r", "n").contains(token().text)) {
                throw wrong();
            }
            made.side = next().text.charAt(0);
        }
        need("(");
        if (space == 'b') {
            readParameter(made);
            need(",");
            readParameter(made);
        } else if (space == 'a') {
            readParameter(made);
        } else if (!is(")")) {
            readParameter(made);
            while (is(",") && made.parameters.size() < 3) {
                next();
                readParameter(made);
            }
        }
        need(")");
        need("=");
        Scope outer = scope;
        for (Made parameter : made.parameters) {
            hold(parameter);
        }
        owners.add(made);
        made.body = expression(1);
        owners.remove(owners.size() - 1);
        scope = outer;
        hold(made);
        Node making = new Node('m');
        making.made = made;
        return making;
    }

    private Made readMade(String kind, char space) {
        if (!is(kind)) {
            throw wrong();
        }
        for (Scope s = scope; s != blockScope; s = s.up) {
            if (s.made.space == space && s.made.key.equals(token().text)) {
                throw new Fault(6, token().begin);
            }
        }
        Made made = new Made();
        made.space = space;
        made.key = token().text;
        made.token = here;
        token().meaning = made;
        next();
        return made;
    }

    private void readParameter(Made of) {
        if (!is("name")) {
            throw wrong();
        }
        for (Made other : of.parameters) {
            if (other.key.equals(token().text)) {
                throw new Fault(6, token().begin);
            }
        }
        Made made = new Made();
        made.space = 'n';
        made.key = token().text;
        made.token = here;
        made.parameter = true;
        token().meaning = made;
        of.parameters.add(made);
        next();
    }

    private Node expression(int least) {
        Node first = firstPart();
        while (true) {
            Made sign = is("sign") ? find('b', token().text) : null;
            if (sign == null || sign.precedence < least) {
                return first;
            }
            Token at = next();
            at.meaning = sign;
            Node node = new Node(sign.token < 0 ? 's' : 'u');
            node.made = sign;
            node.parts.add(first);
            node.parts.add(expression(sign.precedence + (sign.side == 'r' ? 0 : 1)));
            checkCarets(sign, at);
            Made following = is("sign") ? find('b', token().text) : null;
            if (sign.side == 'n' && following != null && following.precedence == sign.precedence) {
                throw new Fault(3, token().begin);
            }
            first = node;
        }
    }

    private void checkCarets(Made used, Token at) {
        for (String key : used.carets) {
            if (findLet(key) == null) {
                throw new Fault(2, at.begin);
            }
        }
    }

    private Node firstPart() {
        if (is("number")) {
            Node node = new Node('0');
            node.number = Long.parseLong(next().text);
            return node;
        }
        if (is("(")) {
            next();
            Node inside = expression(1);
            need(")");
            return inside;
        }
        if (is("{")) {
            next();
            return readStatements("}");
        }
        if (is("^") && !owners.isEmpty()) {
            next();
            if (!is("name")) {
                throw wrong();
            }
            Node node = new Node('^');
            node.key = next().text;
            behindCarets.add(node.key);
            owners.get(owners.size() - 1).carets.add(node.key);
            return node;
        }
        if (is("sign")) {
            Made sign = find('a', token().text);
            if (sign == null) {
                throw wrong();
            }
            Token at = next();
            at.meaning = sign;
            Node node = new Node('u');
            node.made = sign;
            node.parts.add(expression(sign.precedence));
            checkCarets(sign, at);
            return node;
        }
        if (!is("name")) {
            throw wrong();
        }
        return tokens.get(here + 1).kind.equals("(") ? readUse() : readName();
    }

    private Node readName() {
        Made made = find('n', token().text);
        if (made == null) {
            throw new Fault(2, token().begin);
        }
        Node node = new Node(made.parameter ? 'p' : 'v');
        node.made = made;
        token().meaning = made;
        next();
        return node;
    }

    private Node readUse() {
        Made made = find('m', token().text);
        if (made == null) {
            throw new Fault(4, token().begin);
        }
        Token at = next();
        at.meaning = made;
        next();
        Node node = new Node('u');
        node.made = made;
        int wanted = made.parameters.size();
        if (!is(")")) {
            node.parts.add(expression(1));
            while (is(",")) {
                if (node.parts.size() >= wanted) {
                    throw new Fault(4, at.begin);
                }
                next();
                node.parts.add(expression(1));
            }
        }
        if (!is(")")) {
            throw wrong();
        }
        if (node.parts.size() != wanted) {
            throw new Fault(4, at.begin);
        }
        next();
        checkCarets(made, at);
        return node;
    }

    // ---- expansion

    private void countPart() {
        parts++;
        if (parts > 300) {
            throw new Fault(5, 0);
        }
    }

    private long expandStatements(Node block, Env env) {
        long result = 0;
        boolean later = false;
        for (Node statement : block.parts) {
            if (statement.kind == 'm') {
                env = new Env(env, statement.made);
                continue;
            }
            if (later) {
                out.append(';');
            }
            later = true;
            if (statement.kind == 'l') {
                countPart();
                Env let = new Env(env, statement.made);
                let.name = nameOf(letCount++);
                out.append("let ").append(let.name).append('=');
                let.value = expand(statement.parts.get(0), env);
                env = let;
                result = 0;
            } else {
                result = expand(statement, env);
            }
        }
        return result;
    }

    private static String nameOf(int index) {
        String digits = "";
        for (int rest = index; rest > 0 || digits.isEmpty(); rest /= 26) {
            digits = (char) ('a' + rest % 26) + digits;
        }
        return "v" + digits;
    }

    private long expand(Node node, Env env) {
        switch (node.kind) {
            case '0':
                countPart();
                out.append(node.number);
                return node.number;
            case 'v':
                return expandName(lookUp(node.made, env));
            case 'p': {
                Env bound = lookUp(node.made, env);
                return expand(bound.part, bound.site);
            }
            case '^':
                return expandName(lookUpLet(node.key, lookUp(null, env).site));
            case 's':
                return expandSign(node, env);
            case 'u':
                return expandUse(node, env);
            default: {
                countPart();
                out.append('{');
                long result = expandStatements(node, env);
                out.append('}');
                return result;
            }
        }
    }

    private long expandName(Env let) {
        countPart();
        out.append(let.name);
        return let.value;
    }

    private long expandSign(Node node, Env env) {
        countPart();
        out.append('(');
        long first = expand(node.parts.get(0), env);
        out.append(node.made.key);
        long second = expand(node.parts.get(1), env);
        out.append(')');
        return node.made.key.equals("+") ? first + second : node.made.key.equals("-") ? first - second : first * second;
    }

    private long expandUse(Node node, Env env) {
        useCount++;
        if (useCount > 200) {
            throw new Fault(5, 0);
        }
        Env inside = lookUp(node.made, env).up;
        for (int i = 0; i < node.parts.size(); i++) {
            inside = new Env(inside, node.made.parameters.get(i));
            inside.part = node.parts.get(i);
            inside.site = env;
        }
        inside = new Env(inside, null);
        inside.site = env;
        return expand(node.made.body, inside);
    }

    private static Env lookUp(Made made, Env env) {
        Env at = env;
        while (at.made != made) {
            at = at.up;
        }
        return at;
    }

    private static Env lookUpLet(String key, Env env) {
        Env at = env;
        while (at.made == null || at.made.space != 'n' || at.made.parameter || !at.made.key.equals(key)) {
            at = at.up;
        }
        return at;
    }

    // ---- names

    int tokenCount() {
        return realTokens;
    }

    private Token tokenAt(int place) {
        for (int i = 0; i < realTokens; i++) {
            if (tokens.get(i).begin == place) {
                return tokens.get(i);
            }
        }
        return null;
    }

    int made(int place) {
        Token token = tokenAt(place);
        if (token == null || token.meaning == null || token.meaning.token < 0) {
            return -1;
        }
        return tokens.get(token.meaning.token).begin;
    }

    int uses(int place) {
        int made = made(place);
        int count = 0;
        for (int i = 0; i < realTokens && made >= 0; i++) {
            count += made(tokens.get(i).begin) == made ? 1 : 0;
        }
        return count;
    }

    /** The text after it is renamed, or null where that is not done. */
    String renamed(int place, int letter) {
        Token token = tokenAt(place);
        if (token == null || token.meaning == null || token.meaning.token < 0
                || token.meaning.space != 'n' && token.meaning.space != 'm') {
            return null;
        }
        String newName = String.valueOf((char) ('a' + letter));
        String oldName = token.meaning.key;
        if (newName.equals(oldName) || behindCarets.contains(newName) || behindCarets.contains(oldName)) {
            return null;
        }
        StringBuilder changed = new StringBuilder();
        int copied = 0;
        for (int i = 0; i < realTokens; i++) {
            Token other = tokens.get(i);
            if (other.meaning == token.meaning) {
                changed.append(text, copied, other.begin).append(newName);
                copied = other.begin + oldName.length();
            }
        }
        changed.append(text.substring(copied));
        Model after = new Model(changed.toString());
        if (after.fault != 0 || after.realTokens != realTokens) {
            return null;
        }
        for (int i = 0; i < realTokens; i++) {
            if (madeToken(i) != after.madeToken(i)) {
                return null;
            }
        }
        return changed.toString();
    }

    private int madeToken(int token) {
        Made meaning = tokens.get(token).meaning;
        return meaning == null ? -1 : meaning.token;
    }

    int holds(int place, int what) {
        Token last = null;
        for (int i = 0; i < realTokens && tokens.get(i).begin <= place; i++) {
            last = tokens.get(i);
        }
        if (last == null) {
            return what == 2 ? 3 : 0;
        }
        Set<String> different = new HashSet<>();
        for (Scope s = last.scope; s != null; s = s.up) {
            if (s.made.space == "nmba".charAt(what)) {
                different.add(s.made.key);
            }
        }
        return different.size();
    }
}
