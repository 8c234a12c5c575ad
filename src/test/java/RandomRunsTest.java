import java.lang.reflect.InvocationTargetException;
import java.lang.reflect.Method;
import java.util.ArrayList;
import java.util.HashMap;
import java.util.List;
import java.util.Map;
import java.util.Random;

/** All promises: the class against the plain model, over runs drawn from fixed seeds. */
public final class RandomRunsTest {
    private static final int RUNS = 4000;
    // What an object answers behind its 512th call is free, so that no run is longer; the last ones look around.
    private static final int MOST_CALLS = 512;
    private static final int CALLS_OF_PARTS = 260;
    private static final int[] EDGES = {0, 1, -1, 2, 3, 7, 8, 9, 15, 16, 39, 40, 59, 60, 63, 64, 95, 96, 1000000, 1000059,
        Integer.MAX_VALUE, Integer.MIN_VALUE};
    private static final int[] SIGNS = {' ', '\n', '#', ':', ';', '=', '<', '!', '(', ')', ',', '?', '-', '~', '>', 'A', '*',
        'a', 'z', '0', '9', '%', '&'};

    private final Random random;
    private int calls;
    private final WardEngine engine = new WardEngine();
    private final Model model = new Model();
    private final List<String> told = new ArrayList<>();
    private final Map<String, Method> ofEngine = methods(WardEngine.class);
    private final Map<String, Method> ofModel = methods(Model.class);
    private static final Map<String, Integer> SEEN = new HashMap<>();

    private RandomRunsTest(long seed) {
        random = new Random(seed);
    }

    public static void main(String[] args) {
        int from = args.length > 0 ? Integer.parseInt(args[0]) : 0;
        int runs = args.length > 1 ? Integer.parseInt(args[1]) : RUNS;
        for (int seed = from; seed < from + runs; seed++) {
            RandomRunsTest run = new RandomRunsTest(seed);
            if (!run.goes()) {
                System.out.println("seed " + seed);
                run.told.stream().skip(Math.max(0, run.told.size() - 60)).forEach(System.out::println);
                Check.is("seed " + seed, 1, 0);
                break;
            }
        }
        if (args.length > 2) {
            SEEN.entrySet().stream().sorted(Map.Entry.comparingByKey()).forEach(System.out::println);
        }
        Check.is("runs that stopped a machine in all five ways", waysSeen(), 6);
        Check.end("RandomRunsTest");
    }

    /** A run of runs that never comes to a state would prove nothing of it. */
    private static int waysSeen() {
        int ways = 0;
        for (int k = 0; k < 6; k++) {
            ways += SEEN.containsKey("state(0)=" + k) ? 1 : 0;
        }
        return ways;
    }

    private static Map<String, Method> methods(Class<?> type) {
        Map<String, Method> all = new HashMap<>();
        for (Method m : type.getDeclaredMethods()) {
            if (java.lang.reflect.Modifier.isPublic(m.getModifiers())) {
                all.put(m.getName(), m);
            }
        }
        return all;
    }

    private static String answer(Object target, Method method, Object[] args) {
        try {
            return String.valueOf(method.invoke(target, args));
        } catch (InvocationTargetException e) {
            return e.getCause().getClass().getName();
        } catch (IllegalAccessException e) {
            return "no access";
        }
    }

    private boolean call(String name, int... args) {
        if (calls == MOST_CALLS) {
            return true;
        }
        calls++;
        Object[] boxed = new Object[args.length];
        StringBuilder shown = new StringBuilder(name + "(");
        for (int k = 0; k < args.length; k++) {
            boxed[k] = args[k];
            shown.append(k == 0 ? "" : ", ").append(args[k]);
        }
        String got = answer(engine, ofEngine.get(name), boxed);
        String due = answer(model, ofModel.get(name), boxed);
        told.add(shown + ") " + got + (got.equals(due) ? "" : ", due is " + due));
        if (name.equals("state") && args[0] == 0) {
            SEEN.merge("state(0)=" + got, 1, Integer::sum);
        } else if (got.startsWith("java") || name.equals("differ") || name.equals("policy") || name.equals("image")) {
            SEEN.merge(name + (got.equals("-1") ? " NONE" : got.startsWith("java") ? got : " some"), 1, Integer::sum);
        }
        return got.equals(due);
    }

    private boolean goes() {
        boolean good = random.nextInt(10) == 0 || text(policyText()) && call("policy") && text(imageText()) && call("image");
        while (calls < CALLS_OF_PARTS && good) {
            good = part();
        }
        good = good && runs();
        for (int half = 0; half < 2 && good; half++) {
            int until = calls + (MOST_CALLS - calls) / 2;
            while (calls < until && good) {
                good = look();
            }
            good = good && call("swap");
        }
        while (calls < MOST_CALLS && good) {
            good = look();
        }
        return good;
    }

    private boolean part() {
        switch (random.nextInt(16)) {
            case 0:
            case 1:
                return text(spoiled(policyText())) && call("policy") && someNames();
            case 2:
            case 3:
                return text(spoiled(imageText())) && call("image");
            case 4:
                return call("begin", value());
            case 5:
                return set();
            case 6:
                return set() && set() && set() && set();
            case 7:
                return call("input", value(), tag());
            case 8:
                return call("keep");
            case 9:
                return compare();
            case 10:
                return call("twin");
            case 11:
                return call("swap");
            case 12:
                return look();
            default:
                return runs();
        }
    }

    /** Runs the machine; one that has stopped mostly gets a new image first, so that runs go on for long. */
    private boolean runs() {
        boolean good = true;
        if (random.nextInt(4) == 0) {
            good = text(policyText()) && call("policy");
        }
        if (stopped() && random.nextInt(5) > 0) {
            good = good && text(imageText()) && call("image");
        }
        for (int k = 0; k < 4 && good; k++) {
            good = call("run", runLength()) && call("state", 0) && look() && look();
            if (model.state(0) == 5) {
                good = good && call("input", value(), tag());
            }
        }
        return good;
    }

    private boolean stopped() {
        return model.state(0) >= 1 && model.state(0) <= 4;
    }

    private int runLength() {
        int[] some = {0, 1, 1, 2, 3, 5, 20, 100, 500, -1, 2001, 2000};
        return some[random.nextInt(random.nextInt(10) == 0 ? some.length : 9)];
    }

    private boolean someNames() {
        boolean good = true;
        for (int k = 0; k < 6; k++) {
            good &= call("names", random.nextInt(24) - 1);
        }
        return good;
    }

    /** Compares, mostly with a text that differs from the kept one in a number or name at most. */
    private boolean compare() {
        boolean good = true;
        if (random.nextInt(4) > 0) {
            String one = policyText();
            String two = one;
            String[] from = {" a", " b", " 1", "|", "<", "need 3|", "next", "owner", "tag"};
            String[] to = {" c", " pc", " 2", "&", "==", "need ", "owner", "next", "need 1;tag"};
            int k = random.nextInt(from.length);
            two = one.replace(from[k], to[k]);
            good = text(one) && call("policy") && call("keep") && text(two) && call("policy");
        }
        for (int k = 0; k < 8 && good; k++) {
            good = call("differ", random.nextInt(22), random.nextInt(9) == 0 ? edge() : 1 + random.nextInt(3));
            for (int look = 0; look < 4; look++) {
                good &= call("witness", random.nextInt(17) - 1);
            }
        }
        return good;
    }

    private boolean set() {
        switch (random.nextInt(4)) {
            case 0:
                return call("code", random.nextInt(12) == 0 ? edge() : random.nextInt(10), instruction(), tag());
            case 1:
                return call("word", random.nextInt(12) == 0 ? edge() : random.nextInt(20), value(), tag(), tag());
            case 2:
                return call("register", random.nextInt(10), value(), tag());
            default:
                return call("register", 8, random.nextInt(10), tag());
        }
    }

    private boolean look() {
        int k = edge();
        int what = random.nextInt(7) - 1;
        switch (random.nextInt(14)) {
            case 0:
                return call("listing", random.nextInt(64), random.nextInt(50)) && call("listing", k, edge());
            case 1:
                return call("codeOf", k, what);
            case 2:
                return call("state", random.nextInt(12) - 1);
            case 3:
                return call("registerOf", random.nextInt(12) - 1, what);
            case 4:
                return call("wordOf", k, what);
            case 5:
                return call("output", within(model.state(1), 41));
            case 6:
                return call("pairOf", within(model.state(7), 61), random.nextInt(4) - 1);
            case 7:
                return call("blame");
            case 8:
                return call("journal", within(model.state(9), 17), random.nextInt(8) - 1);
            case 9:
                return call("count", random.nextInt(24) - 1, what);
            case 10:
                return call("cacheOf", within(model.state(8), 9), random.nextInt(28) - 1);
            case 11:
                return call("unlike", what);
            case 12:
                return random.nextInt(5) == 0 ? call("end", edge()) : call("count", random.nextInt(22), random.nextInt(4));
            default:
                return call("put", random.nextInt(3) == 0 ? random.nextInt() : 0) && call("registerOf", random.nextInt(9), random.nextInt(2));
        }
    }

    private boolean text(String text) {
        boolean good = call("end", 0);
        for (int i = 0; i < text.length() && i < 896; i += 4) {
            int signs = 0;
            for (int k = 0; k < 4 && i + k < text.length(); k++) {
                signs |= text.charAt(i + k) << 8 * k;
            }
            good &= call("put", signs);
        }
        told.add("text: " + text);
        return good;
    }

    private String spoiled(String text) {
        StringBuilder all = new StringBuilder(text);
        int times = random.nextInt(3) == 0 ? 1 + random.nextInt(2) : 0;
        for (int k = 0; k < times && all.length() > 0; k++) {
            int at = random.nextInt(all.length());
            switch (random.nextInt(4)) {
                case 0 -> all.deleteCharAt(at);
                case 1 -> all.insert(at, (char) SIGNS[random.nextInt(SIGNS.length)]);
                case 2 -> all.setCharAt(at, (char) SIGNS[random.nextInt(SIGNS.length)]);
                default -> all.setLength(at);
            }
        }
        return all.toString();
    }

    /** One of those that there are, mostly, or the next one on either side. */
    private int within(int count, int most) {
        return random.nextInt(12) == 0 ? edge() : random.nextInt(Math.min(count, most) + 2) - 1;
    }

    private int edge() {
        return random.nextInt(3) == 0 ? EDGES[random.nextInt(EDGES.length)] : random.nextInt(100);
    }

    private int value() {
        return random.nextInt(4) == 0 ? EDGES[random.nextInt(EDGES.length)] : random.nextInt(8);
    }

    private int tag() {
        return random.nextInt(8) == 0 ? value() : random.nextInt(3);
    }

    private int instruction() {
        if (random.nextInt(15) == 0) {
            return random.nextInt();
        }
        return Check.code(random.nextInt(22), random.nextInt(8), random.nextInt(8), random.nextInt(8), random.nextInt(11) - 1);
    }

    private String blank() {
        int draw = random.nextInt(30);
        return draw == 0 ? "\n" : draw == 1 ? " # need ;=x\n" : draw < 10 ? " " : "";
    }

    private String policyText() {
        StringBuilder all = new StringBuilder();
        boolean most = random.nextInt(5) > 0;
        List<String> kinds = new ArrayList<>(Model.KINDS);
        java.util.Collections.shuffle(kinds, random);
        if (random.nextInt(8) == 0) {
            kinds.add(kinds.get(0));
        }
        int k = 0;
        int count = most ? kinds.size() : random.nextInt(kinds.size());
        int enough = random.nextInt(random.nextInt(8) == 0 ? 450 : 150);
        while (k < count) {
            all.append(kinds.get(k++));
            while (k < count && random.nextInt(3) > 0) {
                all.append(blank()).append(',').append(blank()).append(kinds.get(k++));
            }
            all.append(blank()).append(':').append(blank());
            // Behind so many signs the kinds that are left must still fit in, and calls must be left for them.
            if (all.length() < enough) {
                statements(all);
            }
        }
        return all.toString();
    }

    private void statements(StringBuilder all) {
        String[] words = {"tag", "next", "owner"};
        int skipped = random.nextInt(5) == 0 ? -1 : random.nextInt(3);
        for (int k = 0; k < 3; k++) {
            if (random.nextInt(3) == 0) {
                all.append("need ").append(random.nextInt(4) == 0 ? "" : "3|").append(expression(2)).append(';').append(blank());
            }
            if (k != skipped && random.nextInt(2) == 0) {
                all.append(words[k]).append(blank()).append('=').append(blank()).append(expression(2)).append(';').append(blank());
            }
        }
        if (random.nextInt(40) == 0) {
            all.append("tag=1;");
        }
    }

    private String expression(int depth) {
        String parts = sum(depth);
        if (random.nextInt(6) == 0) {
            String[] signs = {"==", "!=", "<", "<="};
            parts += blank() + signs[random.nextInt(4)] + blank() + sum(depth);
        }
        if (depth > 0 && random.nextInt(6) == 0) {
            parts += blank() + "?" + blank() + expression(depth - 1) + ":" + blank() + expression(depth - 1);
        }
        return parts;
    }

    private String sum(int depth) {
        String all = term(depth);
        while (random.nextInt(4) == 0) {
            all += blank() + "|&^+-".charAt(random.nextInt(5)) + blank() + term(depth);
        }
        return all;
    }

    private String term(int depth) {
        int draw = random.nextInt(depth > 0 ? 14 : 8);
        if (random.nextInt(60) == 0) {
            String deep = random.nextBoolean() ? "(" : "!";
            int times = 8 + random.nextInt(3);
            return deep.repeat(times) + "b" + (deep.equals("(") ? ")".repeat(times) : "");
        }
        if (draw < 5) {
            return " " + Model.NAMES.get(random.nextInt(random.nextInt(3) == 0 ? 15 : 4));
        }
        if (draw < 8) {
            return " " + (random.nextInt(5) == 0 ? 1000000 + random.nextInt(4) : random.nextInt(5));
        }
        switch (draw) {
            case 8:
            case 9:
                return "!~-".charAt(random.nextInt(3)) + blank() + term(depth - 1);
            case 10:
                return "(" + expression(depth - 1) + ")";
            case 11:
                return " pair" + blank() + "(" + expression(depth - 1) + "," + expression(depth - 1) + ")";
            case 12:
                return " " + (random.nextBoolean() ? "first" : "second") + "(" + expression(depth - 1) + blank() + ")";
            default:
                return random.nextInt(3) == 0 ? " base(" + expression(depth - 1) + ")" : " first(pair(b,c))";
        }
    }

    private String imageText() {
        StringBuilder all = new StringBuilder();
        if (random.nextBoolean()) {
            all.append("clear ").append(number()).append(';');
        }
        int lines = random.nextInt(4) == 0 ? random.nextInt(25) : 8 + random.nextInt(6);
        boolean inputs = random.nextInt(6) == 0;
        for (int k = 0; k < lines; k++) {
            all.append(inputs && random.nextInt(4) > 0 ? "input 3" : line()).append(blank()).append(';').append(blank());
        }
        if (random.nextInt(3) > 0) {
            all.append("jump n ").append(random.nextInt(3)).append(';');
        }
        return all.toString();
    }

    private String number() {
        String minus = random.nextInt(5) == 0 ? "-" + blank() : "";
        return minus + (random.nextInt(15) == 0 ? 32760 + random.nextInt(20) : random.nextInt(9));
    }

    private String line() {
        int draw = random.nextInt(16);
        switch (draw) {
            case 0:
                return "at " + (random.nextInt(3) == 0 ? 60 + random.nextInt(5) : random.nextInt(6));
            case 1:
            case 2:
                return "word " + (random.nextInt(6) == 0 ? 92 + random.nextInt(5) : random.nextInt(20)) + " " + number()
                        + (random.nextBoolean() ? " held " + number() : "") + (random.nextBoolean() ? " owner " + number() : "");
            case 3:
            case 4:
                return "register " + random.nextInt(random.nextInt(6) == 0 ? 10 : 8) + " " + number()
                        + (random.nextBoolean() ? " tag " + number() : "");
            case 5:
                return "input " + number() + (random.nextBoolean() ? " tag " + number() : "");
            default:
                return instructionLine();
        }
    }

    private String instructionLine() {
        String kind = Model.KINDS.get(random.nextInt(22));
        if (kind.equals("halt") && random.nextInt(4) > 0) {
            kind = "mark";
        }
        StringBuilder all = new StringBuilder(kind);
        List<String> fields = new ArrayList<>(List.of("a", "b", "c", "n", "tag"));
        java.util.Collections.shuffle(fields, random);
        if (random.nextInt(60) == 0) {
            fields.add("a");
        }
        for (String field : fields) {
            if (random.nextInt(3) > 0) {
                boolean register = field.length() == 1 && !field.equals("n");
                String number = register ? "" + random.nextInt(random.nextInt(60) == 0 ? 10 : 8)
                        : random.nextInt(6) == 0 ? number() : "" + random.nextInt(6);
                all.append(' ').append(field).append(' ').append(number);
            }
        }
        return all.toString();
    }
}
