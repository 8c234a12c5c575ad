import java.util.ArrayDeque;
import java.util.ArrayList;
import java.util.Arrays;
import java.util.HashMap;
import java.util.List;
import java.util.Map;
import java.util.TreeSet;

/**
 * The document once more, written for plainness alone, with trees, lists and exceptions of its own, so that
 * the class can be held against it over runs that nobody wrote down.
 */
public final class Model {
    static final List<String> KINDS = List.of("halt", "constant", "move", "add", "subtract", "multiply", "and", "or",
            "xor", "below", "like", "load", "store", "jump", "branch", "go", "link", "out", "in", "make", "drop", "mark");
    static final List<String> NAMES = List.of("pc", "a", "b", "c", "va", "vb", "vc", "w", "o", "i", "n", "code",
            "before", "clear", "fresh");

    private String text = "";
    private Map<Integer, Rule> policy = new HashMap<>();
    private Map<Integer, Rule> kept = new HashMap<>();
    private M hand = new M(0);
    private M other = new M(0);
    private int[] found = null;

    // ---- texts

    private static final class Fault extends RuntimeException {
        final int place;

        Fault(int place) {
            this.place = place;
        }
    }

    private static final class Violation extends RuntimeException {
        final int place;

        Violation(int place) {
            this.place = place;
        }
    }

    private static final class NoPair extends RuntimeException {
    }

    private record Token(String text, int place) {
        boolean isNumber() {
            return !text.isEmpty() && Character.isDigit(text.charAt(0)) && text.length() <= 7;
        }
    }

    private interface Node {
        int value(int[] names, M m);
    }

    private record Statement(String word, int place, Node node) {
    }

    private static final class Rule {
        final List<Statement> statements = new ArrayList<>();
        final TreeSet<Integer> names = new TreeSet<>();
        boolean pair;
        boolean base;

        boolean tells(String word) {
            return statements.stream().anyMatch(s -> s.word.equals(word));
        }

        /** tag, next, owner (null where it tells none); or an exception. */
        Integer[] answer(int[] names, M m) {
            Integer[] told = new Integer[3];
            for (Statement s : statements) {
                int v = s.node.value(names, m);
                switch (s.word) {
                    case "need" -> {
                        if (v == 0) {
                            throw new Violation(s.place);
                        }
                    }
                    case "tag" -> told[0] = v;
                    case "next" -> told[1] = v;
                    default -> told[2] = v;
                }
            }
            return told;
        }
    }

    /** "" is the end; a text that is no token of the document is kept as it is, and nothing accepts it. */
    private static List<Token> tokens(String text) {
        List<Token> all = new ArrayList<>();
        int i = 0;
        while (i < text.length()) {
            char ch = text.charAt(i);
            int j = i + 1;
            if (ch == ' ' || ch == '\n') {
                i++;
                continue;
            }
            if (ch == '#') {
                while (i < text.length() && text.charAt(i) != '\n') {
                    i++;
                }
                continue;
            }
            if (ch >= 'a' && ch <= 'z') {
                while (j < text.length() && text.charAt(j) >= 'a' && text.charAt(j) <= 'z') {
                    j++;
                }
            } else if (ch >= '0' && ch <= '9') {
                while (j < text.length() && text.charAt(j) >= '0' && text.charAt(j) <= '9') {
                    j++;
                }
            } else if ("=!<".indexOf(ch) >= 0 && text.startsWith("=", j)) {
                j++;
            }
            all.add(new Token(text.substring(i, j), i));
            i = j;
        }
        all.add(new Token("", text.length()));
        return all;
    }

    private static class Parser {
        final List<Token> tokens;
        int at = 0;

        Parser(String text) {
            tokens = tokens(text);
        }

        Token peek() {
            return tokens.get(at);
        }

        Token next() {
            return tokens.get(at++);
        }

        boolean sees(String... some) {
            return Arrays.asList(some).contains(peek().text);
        }

        Fault fault() {
            return new Fault(peek().place);
        }

        Token expect(String... some) {
            if (!sees(some)) {
                throw fault();
            }
            return next();
        }
    }

    private static final class PolicyParser extends Parser {
        final Map<Integer, Rule> rules = new HashMap<>();
        Rule rule;
        int open = 0;

        PolicyParser(String text) {
            super(text);
            while (!sees("")) {
                rule();
            }
        }

        void kind() {
            int kind = KINDS.indexOf(peek().text);
            if (kind < 0 || rules.containsKey(kind)) {
                throw fault();
            }
            rules.put(kind, rule);
            next();
        }

        void rule() {
            rule = new Rule();
            kind();
            while (sees(",")) {
                next();
                kind();
            }
            expect(":");
            while (!sees("") && !KINDS.contains(peek().text)) {
                if (!sees("need") && rule.tells(peek().text)) {
                    throw fault();
                }
                Token word = expect("need", "tag", "next", "owner");
                if (!word.text.equals("need")) {
                    expect("=");
                }
                Node node = expression();
                expect(";");
                rule.statements.add(new Statement(word.text, word.place, node));
            }
        }

        void open() {
            if (open == 10) {
                throw fault();
            }
            open++;
        }

        Node expression() {
            Node test = parts();
            if (!sees("?")) {
                return test;
            }
            open();
            next();
            Node yes = expression();
            expect(":");
            Node no = expression();
            open--;
            return (n, m) -> test.value(n, m) != 0 ? yes.value(n, m) : no.value(n, m);
        }

        Node parts() {
            Node left = sum();
            if (!sees("==", "!=", "<", "<=")) {
                return left;
            }
            String sign = next().text;
            Node right = sum();
            return (n, m) -> {
                int x = left.value(n, m);
                int y = right.value(n, m);
                boolean yes = switch (sign) {
                    case "==" -> x == y;
                    case "!=" -> x != y;
                    case "<" -> x < y;
                    default -> x <= y;
                };
                return yes ? 1 : 0;
            };
        }

        Node sum() {
            Node all = term();
            while (sees("|", "&", "^", "+", "-")) {
                String sign = next().text;
                Node left = all;
                Node right = term();
                all = (n, m) -> {
                    int x = left.value(n, m);
                    int y = right.value(n, m);
                    return switch (sign) {
                        case "|" -> x | y;
                        case "&" -> x & y;
                        case "^" -> x ^ y;
                        case "+" -> x + y;
                        default -> x - y;
                    };
                };
            }
            return all;
        }

        Node bracket() {
            if (!sees("(")) {
                throw fault();
            }
            open();
            next();
            return expression();
        }

        Node close(Node node) {
            expect(")");
            open--;
            return node;
        }

        Node term() {
            if (sees("!", "~", "-")) {
                open();
                String sign = next().text;
                Node term = term();
                open--;
                return (n, m) -> {
                    int x = term.value(n, m);
                    return sign.equals("!") ? (x == 0 ? 1 : 0) : sign.equals("~") ? ~x : -x;
                };
            }
            if (sees("(")) {
                return close(bracket());
            }
            if (peek().isNumber()) {
                int value = Integer.parseInt(next().text);
                return (n, m) -> value;
            }
            int name = NAMES.indexOf(peek().text);
            if (name >= 0) {
                next();
                rule.names.add(name);
                return (n, m) -> n[name];
            }
            String word = expect("pair", "first", "second", "base").text;
            Node first = bracket();
            if (word.equals("pair")) {
                rule.pair = true;
                expect(",");
                Node second = expression();
                return close((n, m) -> {
                    int x = first.value(n, m);
                    return m.pair(x, second.value(n, m));
                });
            }
            rule.base |= word.equals("base");
            return close((n, m) -> {
                int x = first.value(n, m);
                if (word.equals("base")) {
                    return m.base(x);
                }
                long k = (long) x - 1000000;
                boolean is = k >= 0 && k < m.pairs.size();
                if (word.equals("first")) {
                    return is ? m.pairs.get((int) k)[0] : x;
                }
                return is ? m.pairs.get((int) k)[1] : 0;
            });
        }
    }

    private static final class ImageParser extends Parser {
        final M m = new M(0);
        int place = 0;

        ImageParser(String text) {
            super(text);
            if (sees("clear")) {
                next();
                m.clear = number(-9999999, 9999999);
                expect(";");
            }
            while (!sees("")) {
                line();
                expect(";");
            }
        }

        int number(int least, int most) {
            int from = peek().place;
            int sign = 1;
            if (least < 0 && sees("-")) {
                next();
                sign = -1;
            }
            if (!peek().isNumber()) {
                throw fault();
            }
            int value = sign * Integer.parseInt(peek().text);
            if (value < least || value > most) {
                throw new Fault(from);
            }
            next();
            return value;
        }

        int any() {
            return number(-9999999, 9999999);
        }

        int perhaps(String word) {
            if (!sees(word)) {
                return 0;
            }
            next();
            return any();
        }

        void line() {
            int kind = KINDS.indexOf(peek().text);
            if (kind >= 0) {
                instruction(kind);
                return;
            }
            if (sees("input") && m.inputs.size() == 16) {
                throw fault();
            }
            String word = expect("at", "word", "register", "input").text;
            switch (word) {
                case "at" -> place = number(0, 63);
                case "word" -> {
                    int k = number(0, 95);
                    m.words[k] = new int[] {any(), perhaps("held"), perhaps("owner")};
                }
                case "register" -> {
                    int r = number(0, 8);
                    m.registers[r] = new int[] {any(), perhaps("tag")};
                }
                default -> m.inputs.add(new int[] {any(), perhaps("tag")});
            }
        }

        void instruction(int kind) {
            if (place > 63) {
                throw fault();
            }
            next();
            Map<String, Integer> fields = new HashMap<>();
            while (sees("a", "b", "c", "n", "tag") && !fields.containsKey(peek().text)) {
                String field = next().text;
                fields.put(field, field.equals("n") ? number(-32768, 32767) : field.equals("tag") ? any() : number(0, 7));
            }
            int v = kind + 32 * fields.getOrDefault("a", 0) + 256 * fields.getOrDefault("b", 0)
                    + 2048 * fields.getOrDefault("c", 0) + 65536 * fields.getOrDefault("n", 0);
            m.code[place++] = new int[] {v, fields.getOrDefault("tag", 0)};
        }
    }

    // ---- machines

    private static final class Question {
        int kind;
        int[] names;
        Integer[] told = new Integer[3];
        int violation = -1;
    }

    private static final class M {
        int clear;
        int[][] code = new int[64][2];
        int[][] words = new int[96][3];
        int[][] registers = new int[9][2];
        List<int[]> inputs = new ArrayList<>();
        List<Integer> outputs = new ArrayList<>();
        List<int[]> pairs = new ArrayList<>();
        ArrayDeque<Question> cache = new ArrayDeque<>();
        ArrayDeque<int[]> journal = new ArrayDeque<>();
        int[][] counts = new int[22][4];
        int state;
        int done;
        int questions;
        int hits;
        int makes;
        int before = -1;
        int blame = -1;

        M(int clear) {
            this.clear = clear;
        }

        static int[][] copy(int[][] rows) {
            return Arrays.stream(rows).map(int[]::clone).toArray(int[][]::new);
        }

        M copy() {
            M m = new M(clear);
            m.code = copy(code);
            m.words = copy(words);
            m.registers = copy(registers);
            m.inputs = new ArrayList<>(inputs);
            m.outputs = new ArrayList<>(outputs);
            m.pairs = new ArrayList<>(pairs);
            m.cache = new ArrayDeque<>(cache);
            m.journal = new ArrayDeque<>(journal);
            m.counts = copy(counts);
            m.state = state;
            m.done = done;
            m.questions = questions;
            m.hits = hits;
            m.makes = makes;
            m.before = before;
            m.blame = blame;
            return m;
        }

        int pair(int x, int y) {
            for (int k = 0; k < pairs.size(); k++) {
                if (pairs.get(k)[0] == x && pairs.get(k)[1] == y) {
                    return 1000000 + k;
                }
            }
            if (pairs.size() == 60) {
                throw new NoPair();
            }
            pairs.add(new int[] {x, y});
            return 999999 + pairs.size();
        }

        int base(int owner) {
            for (int k = 0; k < 96; k++) {
                if (words[k][2] == owner) {
                    return k;
                }
            }
            return -1;
        }
    }

    private int[] nameValues(M m, int kind, int v, int codeTag) {
        int[] a = m.registers[v >> 5 & 7];
        int[] b = m.registers[v >> 8 & 7];
        int[] c = m.registers[v >> 11 & 7];
        int n = v >> 16;
        int at = b[0] + n;
        int w = 0;
        int o = 0;
        if (kind == 11 || kind == 12) {
            boolean there = at >= 0 && at < 96;
            w = there ? m.words[at][1] : -2;
            o = there ? m.words[at][2] : -2;
        }
        int i = kind == 18 && !m.inputs.isEmpty() ? m.inputs.get(0)[1] : 0;
        return new int[] {m.registers[8][1], a[1], b[1], c[1], a[0], b[0], c[0], w, o, i, n, codeTag, m.before, m.clear,
                m.makes + 2};
    }

    /** Tries one instruction: whether it was done. */
    private boolean step(M m) {
        int p = m.registers[8][0];
        int[] entry = {p, -1, 0, 0, 0, 2};
        if (m.journal.size() == 16) {
            m.journal.removeFirst();
        }
        m.journal.addLast(entry);
        m.state = 2;
        if (p < 0 || p > 63) {
            return false;
        }
        int v = m.code[p][0];
        int kind = v & 31;
        entry[1] = kind;
        Rule rule = policy.get(kind);
        if (rule == null) {
            return false;
        }
        Question q = new Question();
        q.kind = kind;
        q.names = nameValues(m, kind, v, m.code[p][1]);
        for (int k = 0; k < 15; k++) {
            if (!rule.names.contains(k)) {
                q.names[k] = 0;
            }
        }
        int ended = ask(m, rule, q, entry);
        if (ended == 0) {
            ended = perform(m, kind, v, entry);
        }
        m.state = ended;
        entry[5] = ended;
        if (ended > 1) {
            m.counts[kind][3]++;
            return false;
        }
        m.counts[kind][0]++;
        m.done++;
        m.before = m.code[p][1];
        return true;
    }

    private Integer[] answer;

    private int ask(M m, Rule rule, Question q, int[] entry) {
        boolean plain = rule.pair || rule.base;
        Question kept = q;
        entry[2] = plain ? 1 : 2;
        boolean hit = false;
        if (!plain) {
            m.questions++;
            m.counts[q.kind][1]++;
            for (Question old : m.cache) {
                if (old.kind == q.kind && Arrays.equals(old.names, q.names)) {
                    kept = old;
                    hit = true;
                }
            }
        }
        if (hit) {
            entry[2] = 3;
            m.hits++;
            m.counts[q.kind][2]++;
        } else {
            try {
                q.told = rule.answer(q.names, m);
            } catch (Violation e) {
                q.violation = e.place;
            } catch (NoPair e) {
                return 4;
            }
            if (!plain) {
                m.cache.addLast(q);
                if (m.cache.size() > 8) {
                    m.cache.removeFirst();
                }
            }
        }
        answer = kept.told;
        if (kept.violation >= 0) {
            m.blame = kept.violation;
            return 3;
        }
        return 0;
    }

    private int perform(M m, int kind, int v, int[] entry) {
        int p = m.registers[8][0];
        int[] a = m.registers[v >> 5 & 7];
        int b = m.registers[v >> 8 & 7][0];
        int c = m.registers[v >> 11 & 7][0];
        int n = v >> 16;
        int at = b + n;
        int first = -1;
        if ((kind == 11 || kind == 12) && (at < 0 || at > 95)) {
            return 2;
        }
        if (kind == 18 && m.inputs.isEmpty()) {
            return 5;
        }
        if (kind == 19) {
            first = room(m, b);
            if (first < 0) {
                return 4;
            }
        }
        int tag = answer[0] != null ? answer[0] : kind == 21 ? a[1] : 0;
        int next = answer[1] != null ? answer[1] : m.registers[8][1];
        entry[3] = tag;
        entry[4] = next;
        int to = p + 1;
        Integer value = null;
        switch (KINDS.get(kind)) {
            case "halt" -> to = p;
            case "constant" -> value = n;
            case "move" -> value = b;
            case "add" -> value = b + c;
            case "subtract" -> value = b - c;
            case "multiply" -> value = b * c;
            case "and" -> value = b & c;
            case "or" -> value = b | c;
            case "xor" -> value = b ^ c;
            case "below" -> value = b < c ? 1 : 0;
            case "like" -> value = b == c ? 1 : 0;
            case "load" -> value = m.words[at][0];
            case "store" -> m.words[at] = new int[] {a[0], tag, answer[2] != null ? answer[2] : m.words[at][2]};
            case "jump" -> to = n;
            case "branch" -> to = a[0] != 0 ? n : to;
            case "go" -> to = b;
            case "link" -> {
                value = p + 1;
                to = n;
            }
            case "out" -> m.outputs.add(a[0]);
            case "in" -> value = m.inputs.remove(0)[0];
            case "make" -> {
                for (int k = first; k < first + b; k++) {
                    m.words[k] = new int[] {0, 0, answer[2] != null ? answer[2] : 0};
                }
                m.makes++;
                value = first;
            }
            case "drop" -> {
                int owner = answer[2] != null ? answer[2] : 0;
                for (int[] word : m.words) {
                    word[2] = word[2] == owner ? 0 : word[2];
                }
            }
            default -> value = a[0];
        }
        if (value != null) {
            a[0] = value;
            a[1] = tag;
        }
        m.registers[8][0] = to;
        m.registers[8][1] = next;
        return kind == 0 ? 1 : 0;
    }

    private static int room(M m, int many) {
        if (many < 1 || many > 16) {
            return -1;
        }
        for (int first = 0; first + many <= 96; first++) {
            boolean free = true;
            for (int k = first; k < first + many; k++) {
                free &= m.words[k][2] == 0;
            }
            if (free) {
                return first;
            }
        }
        return -1;
    }

    // ---- the face

    private static void inside(int k, int count) {
        if (k < 0 || k >= count) {
            throw new IndexOutOfBoundsException();
        }
    }

    private static void legal(boolean good) {
        if (!good) {
            throw new IllegalArgumentException();
        }
    }

    public int put(int signs) {
        StringBuilder more = new StringBuilder();
        for (int k = 0; k < 4; k++) {
            int sign = signs >>> 8 * k & 255;
            legal(sign == 0 || sign == 10 || sign >= 32 && sign < 127);
            if (sign != 0) {
                more.append((char) sign);
            }
        }
        if (text.length() + more.length() > 900) {
            throw new UnsupportedOperationException();
        }
        text += more;
        return text.length();
    }

    public void end(int n) {
        legal(n >= 0 && n <= text.length());
        text = text.substring(0, n);
    }

    public int policy() {
        try {
            policy = new PolicyParser(text).rules;
        } catch (Fault e) {
            return e.place;
        }
        for (M m : new M[] {hand, other}) {
            m.cache.clear();
            m.questions = 0;
            m.hits = 0;
        }
        return -1;
    }

    public int image() {
        try {
            hand = new ImageParser(text).m;
        } catch (Fault e) {
            return e.place;
        }
        return -1;
    }

    public int listing(int k, int i) {
        inside(k, 64);
        if (i < 0) {
            throw new IndexOutOfBoundsException();
        }
        int v = hand.code[k][0];
        String all = (v & 31) < 22 ? KINDS.get(v & 31) : "none " + (v & 31);
        int[] values = {v >> 5 & 7, v >> 8 & 7, v >> 11 & 7, v >> 16, hand.code[k][1]};
        String[] names = {"a", "b", "c", "n", "tag"};
        for (int f = 0; f < 5; f++) {
            all += values[f] == 0 ? "" : " " + names[f] + " " + values[f];
        }
        return i < all.length() ? all.charAt(i) : -1;
    }

    public int codeOf(int k, int what) {
        inside(k, 64);
        legal(what == 0 || what == 1);
        return hand.code[k][what];
    }

    public void begin(int clear) {
        hand = new M(clear);
    }

    public void code(int k, int v, int tag) {
        inside(k, 64);
        hand.code[k] = new int[] {v, tag};
    }

    public void word(int k, int v, int held, int owner) {
        inside(k, 96);
        hand.words[k] = new int[] {v, held, owner};
    }

    public void register(int r, int v, int tag) {
        inside(r, 9);
        hand.registers[r] = new int[] {v, tag};
    }

    public int input(int v, int tag) {
        if (hand.inputs.size() == 16) {
            throw new UnsupportedOperationException();
        }
        hand.inputs.add(new int[] {v, tag});
        return hand.inputs.size();
    }

    public int run(int n) {
        legal(n >= 0 && n <= 2000);
        if (hand.state >= 1 && hand.state <= 4) {
            throw new IllegalStateException();
        }
        int done = 0;
        while (done < n && step(hand)) {
            done++;
            if (hand.state != 0) {
                break;
            }
        }
        return done;
    }

    public int state(int what) {
        legal(what >= 0 && what <= 9);
        M m = hand;
        return new int[] {m.state, m.outputs.size(), m.done, m.questions, m.hits, m.inputs.size(), m.makes, m.pairs.size(),
                m.cache.size(), m.journal.size()}[what];
    }

    public int registerOf(int r, int what) {
        inside(r, 9);
        legal(what == 0 || what == 1);
        return hand.registers[r][what];
    }

    public int wordOf(int k, int what) {
        inside(k, 96);
        legal(what >= 0 && what <= 2);
        return hand.words[k][what];
    }

    public int output(int i) {
        inside(i, Math.min(40, hand.outputs.size()));
        return hand.outputs.get(i);
    }

    public int pairOf(int k, int what) {
        inside(k, hand.pairs.size());
        legal(what == 0 || what == 1);
        return hand.pairs.get(k)[what];
    }

    public int names(int kind) {
        legal(kind >= 0 && kind < 22);
        Rule rule = policy.get(kind);
        if (rule == null) {
            return -1;
        }
        int bits = (rule.pair ? 1 << 15 : 0) + (rule.base ? 1 << 16 : 0);
        for (int k : rule.names) {
            bits += 1 << k;
        }
        return bits;
    }

    public int blame() {
        return hand.state == 3 ? hand.blame : -1;
    }

    public int journal(int i, int what) {
        inside(i, hand.journal.size());
        legal(what >= 0 && what <= 5);
        return new ArrayList<>(hand.journal).get(hand.journal.size() - 1 - i)[what];
    }

    public int count(int kind, int what) {
        legal(kind >= 0 && kind < 22 && what >= 0 && what < 4);
        return hand.counts[kind][what];
    }

    public int cacheOf(int i, int what) {
        inside(i, hand.cache.size());
        legal(what >= 0 && what <= 4 || what >= 10 && what <= 24);
        Question q = new ArrayList<>(hand.cache).get(i);
        if (what >= 10) {
            return q.names[what - 10];
        }
        if (what < 2) {
            return what == 0 ? q.kind : q.violation >= 0 ? 3 : 0;
        }
        Integer told = q.told[what - 2];
        return told == null ? 0 : told;
    }

    public void keep() {
        kept = policy;
    }

    public int differ(int kind, int most) {
        legal(kind >= 0 && kind < 22 && most >= 1 && most <= 7);
        Rule one = policy.get(kind);
        Rule two = kept.get(kind);
        if (one == null || two == null || one.pair || one.base || two.pair || two.base) {
            throw new IllegalStateException();
        }
        TreeSet<Integer> names = new TreeSet<>(one.names);
        names.addAll(two.names);
        if (one.tells("next") != two.tells("next")) {
            names.add(0);
        }
        if (one.tells("owner") != two.tells("owner")) {
            names.add(8);
        }
        long cases = 1;
        for (int k = 0; k < names.size(); k++) {
            cases *= most + 1;
        }
        if (cases > 4096) {
            throw new UnsupportedOperationException();
        }
        found = null;
        for (int number = 0; number < cases; number++) {
            int[] values = new int[15];
            int rest = number;
            for (int name : names.descendingSet()) {
                values[name] = rest % (most + 1);
                rest /= most + 1;
            }
            if (!Arrays.equals(caseAnswer(one, values), caseAnswer(two, values))) {
                found = values;
                return number;
            }
        }
        return -1;
    }

    private int[] caseAnswer(Rule rule, int[] values) {
        try {
            Integer[] told = rule.answer(values, hand);
            return new int[] {told[0] == null ? 0 : told[0], told[1] == null ? values[0] : told[1],
                    told[2] == null ? values[8] : told[2]};
        } catch (Violation e) {
            return new int[0];
        }
    }

    public int witness(int k) {
        legal(k >= 0 && k < 15);
        if (found == null) {
            throw new IllegalStateException();
        }
        return found[k];
    }

    public void twin() {
        other = hand.copy();
    }

    public void swap() {
        M old = hand;
        hand = other;
        other = old;
    }

    public int unlike(int what) {
        legal(what >= 0 && what <= 3);
        if (what == 3) {
            for (int k = 0; k < 40; k++) {
                Integer one = k < hand.outputs.size() ? hand.outputs.get(k) : null;
                Integer two = k < other.outputs.size() ? other.outputs.get(k) : null;
                if (one == null ? two != null : !one.equals(two)) {
                    return k;
                }
            }
            return -1;
        }
        int[][] one = what == 0 ? hand.code : what == 1 ? hand.words : hand.registers;
        int[][] two = what == 0 ? other.code : what == 1 ? other.words : other.registers;
        for (int k = 0; k < one.length; k++) {
            if (!Arrays.equals(one[k], two[k])) {
                return k;
            }
        }
        return -1;
    }
}
