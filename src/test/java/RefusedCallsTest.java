import java.util.ArrayList;
import java.util.List;
import java.util.function.Consumer;
import java.util.function.Function;
import java.util.function.Supplier;

/**
 * "A call that throws changes nothing; of several exceptions that one goes which the call names first." Every way in
 * which a call can be refused is tried on an object, and all that can be asked of it is then as of one of which it was
 * not asked. No object gets more than the document's 512 calls, so that each part is asked of an object of its own.
 */
public final class RefusedCallsTest {
    private static final Class<IllegalArgumentException> ILLEGAL = IllegalArgumentException.class;
    private static final Class<IllegalStateException> STATE = IllegalStateException.class;
    private static final Class<IndexOutOfBoundsException> OUTSIDE = IndexOutOfBoundsException.class;
    private static final Class<UnsupportedOperationException> FULL = UnsupportedOperationException.class;
    private static final int LEAST = Integer.MIN_VALUE;
    private static final int MOST = Integer.MAX_VALUE;

    private record Refused(String name, Class<? extends RuntimeException> due, Consumer<WardEngine> call) {
    }

    private static final String KEPT = "mark:tag=n+a;add:tag=vb;in:tag=a+b+c+va+vb;halt:";
    private static final String POLICY = "mark:tag=n+clear;next=before;add:tag=pair(b,n);out:make:owner=fresh;in:tag=i;next=clear;halt:need n<5;load:tag=w;";
    private static final String IMAGE = "clear 6;mark a 1 n 1 tag 3;mark a 1 n 2 tag 4;add a 2 b 1 n 1;add a 2 b 2 n 2;out a 2;out a 1;make a 3 b 4;"
            + "in a 5;in a 6;halt n 9;register 4 3;word 70 1 held 2 owner 3;register 8 0 tag 5;input 11 tag 12;";

    public static void main(String[] args) {
        Check.sentence("A call that throws changes nothing; of several exceptions that one goes which the call names first.");
        tryAll("busy", RefusedCallsTest::busy, anyTime());
        tryAll("busy", RefusedCallsTest::busy, ofBusy());
        tryAll("new", WardEngine::new, anyTime());
        tryAll("new", WardEngine::new, ofNew());
        tryAll("stopped", RefusedCallsTest::stopped, anyTime());
        tryAll("stopped", RefusedCallsTest::stopped, ofStopped());
        tryAll("full", RefusedCallsTest::full, ofFull());
        Check.end("RefusedCallsTest");
    }

    /** All is in use: both machines, pairs, outputs, cache, journal, sixteen inputs, the kept policy, a case that was found. */
    private static WardEngine busy() {
        WardEngine x = new WardEngine();
        Check.policy(x, KEPT);
        x.keep();
        Check.policy(x, POLICY);
        Check.image(x, IMAGE);
        x.twin();
        x.run(8);
        for (int k = 0; k < 16; k++) {
            x.input(20 + k, 40 + k);
        }
        x.swap();
        x.run(3);
        x.swap();
        x.differ(21, 3);
        return x;
    }

    private static WardEngine stopped() {
        WardEngine x = busy();
        x.run(3);
        return x;
    }

    private static WardEngine full() {
        WardEngine x = new WardEngine();
        Check.text(x, "halt:" + "# a remark\n".repeat(81) + "  \n ");
        return x;
    }

    /** Calls that are refused whatever came before. */
    private static List<Refused> anyTime() {
        List<Refused> all = new ArrayList<>();
        for (int bad : new int[] {1, 127 << 8, 200 << 16, 9 << 24, -1, LEAST, 0x61616101, 0x61617f61, 0x61806161, 0x1f616161}) {
            all.add(new Refused("put(" + bad + ")", ILLEGAL, x -> x.put(bad)));
        }
        for (int n : new int[] {-1, 901, LEAST, MOST}) {
            all.add(new Refused("end(" + n + ")", ILLEGAL, x -> x.end(n)));
        }
        for (int n : new int[] {-1, 2001, LEAST, MOST}) {
            all.add(new Refused("run(" + n + ")", ILLEGAL, x -> x.run(n)));
        }
        for (int k : new int[] {-1, 96, LEAST, MOST}) {
            all.add(new Refused("code", OUTSIDE, x -> x.code(k, 1, 1)));
            all.add(new Refused("word", OUTSIDE, x -> x.word(k, 1, 1, 1)));
            all.add(new Refused("register", OUTSIDE, x -> x.register(k, 1, 1)));
            all.add(new Refused("listing", OUTSIDE, x -> x.listing(k, -1)));
            all.add(new Refused("codeOf", OUTSIDE, x -> x.codeOf(k, 9)));
            all.add(new Refused("registerOf", OUTSIDE, x -> x.registerOf(k, 9)));
            all.add(new Refused("wordOf", OUTSIDE, x -> x.wordOf(k, 9)));
            all.add(new Refused("output", OUTSIDE, x -> x.output(k)));
            all.add(new Refused("pairOf", OUTSIDE, x -> x.pairOf(k, 9)));
            all.add(new Refused("journal", OUTSIDE, x -> x.journal(k, 9)));
            all.add(new Refused("cacheOf", OUTSIDE, x -> x.cacheOf(k, 9)));
            all.add(new Refused("names", ILLEGAL, x -> x.names(k)));
            all.add(new Refused("state", ILLEGAL, x -> x.state(k)));
            all.add(new Refused("count", ILLEGAL, x -> x.count(k, 0)));
            all.add(new Refused("count", ILLEGAL, x -> x.count(0, k)));
            all.add(new Refused("differ", ILLEGAL, x -> x.differ(k, 1)));
            all.add(new Refused("differ", ILLEGAL, x -> x.differ(21, k)));
            all.add(new Refused("witness", ILLEGAL, x -> x.witness(k)));
            all.add(new Refused("unlike", ILLEGAL, x -> x.unlike(k)));
            all.add(new Refused("codeOf", ILLEGAL, x -> x.codeOf(0, k)));
            all.add(new Refused("registerOf", ILLEGAL, x -> x.registerOf(8, k)));
            all.add(new Refused("wordOf", ILLEGAL, x -> x.wordOf(95, k)));
        }
        all.add(new Refused("code(64, ..)", OUTSIDE, x -> x.code(64, 1, 1)));
        all.add(new Refused("register(9, ..)", OUTSIDE, x -> x.register(9, 1, 1)));
        all.add(new Refused("listing(0, -1)", OUTSIDE, x -> x.listing(0, -1)));
        return all;
    }

    private static List<Refused> ofBusy() {
        List<Refused> all = new ArrayList<>();
        all.add(new Refused("the 17th input", FULL, x -> x.input(1, 2)));
        all.add(new Refused("end of more than there are", ILLEGAL, x -> x.end(IMAGE.length() + 1)));
        all.add(new Refused("a rule of just one", STATE, x -> x.differ(17, 1)));
        all.add(new Refused("a rule with pair", STATE, x -> x.differ(3, 1)));
        all.add(new Refused("no rule at all", STATE, x -> x.differ(20, 7)));
        all.add(new Refused("too many cases", FULL, x -> x.differ(18, 7)));
        all.add(new Refused("most goes first", ILLEGAL, x -> x.differ(18, 8)));
        all.add(new Refused("pairOf(0, 2)", ILLEGAL, x -> x.pairOf(0, 2)));
        all.add(new Refused("pairOf behind the last", OUTSIDE, x -> x.pairOf(2, 0)));
        all.add(new Refused("journal(0, 6)", ILLEGAL, x -> x.journal(0, 6)));
        all.add(new Refused("journal behind the last", OUTSIDE, x -> x.journal(8, 0)));
        all.add(new Refused("cacheOf(0, 9)", ILLEGAL, x -> x.cacheOf(0, 9)));
        all.add(new Refused("cacheOf behind the last", OUTSIDE, x -> x.cacheOf(5, 0)));
        all.add(new Refused("output behind the last", OUTSIDE, x -> x.output(2)));
        return all;
    }

    private static List<Refused> ofNew() {
        List<Refused> all = new ArrayList<>();
        all.add(new Refused("end(1)", ILLEGAL, x -> x.end(1)));
        all.add(new Refused("differ(0, 1)", STATE, x -> x.differ(0, 1)));
        all.add(new Refused("witness(0)", STATE, x -> x.witness(0)));
        all.add(new Refused("output(0)", OUTSIDE, x -> x.output(0)));
        all.add(new Refused("pairOf(0, 0)", OUTSIDE, x -> x.pairOf(0, 0)));
        all.add(new Refused("journal(0, 0)", OUTSIDE, x -> x.journal(0, 0)));
        all.add(new Refused("cacheOf(0, 0)", OUTSIDE, x -> x.cacheOf(0, 0)));
        return all;
    }

    private static List<Refused> ofStopped() {
        List<Refused> all = new ArrayList<>();
        for (int n : new int[] {0, 1, 2000}) {
            all.add(new Refused("run(" + n + ")", STATE, x -> x.run(n)));
        }
        all.add(new Refused("n goes first", ILLEGAL, x -> x.run(2001)));
        return all;
    }

    private static List<Refused> ofFull() {
        List<Refused> all = new ArrayList<>();
        all.add(new Refused("one sign", FULL, x -> x.put('a')));
        all.add(new Refused("four signs", FULL, x -> x.put(0x61616161)));
        all.add(new Refused("the last byte", FULL, x -> x.put('a' << 24)));
        all.add(new Refused("a bad byte goes first", ILLEGAL, x -> x.put(0x61610161)));
        all.add(new Refused("end(901)", ILLEGAL, x -> x.end(901)));
        return all;
    }

    private static void tryAll(String situation, Supplier<WardEngine> made, List<Refused> calls) {
        List<Function<WardEngine, String>> parts = List.of(RefusedCallsTest::figures, RefusedCallsTest::firstWords,
                RefusedCallsTest::lastWords, RefusedCallsTest::code, RefusedCallsTest::kept, RefusedCallsTest::otherMachine,
                RefusedCallsTest::goingOn, RefusedCallsTest::textAndPolicies);
        List<String> due = new ArrayList<>();
        for (Function<WardEngine, String> part : parts) {
            due.add(part.apply(made.get()));
        }
        for (Refused refused : calls) {
            for (int k = 0; k < parts.size(); k++) {
                WardEngine x = made.get();
                Check.fails(situation + ": " + refused.name, refused.due, () -> refused.call.accept(x));
                Check.same(situation + " behind " + refused.name + ", part " + k, parts.get(k).apply(x), due.get(k));
            }
        }
    }

    private static void add(StringBuilder all, int answer) {
        all.append(answer).append(' ');
    }

    private static String figures(WardEngine x) {
        StringBuilder all = new StringBuilder();
        for (int what = 0; what < 10; what++) {
            add(all, x.state(what));
        }
        for (int r = 0; r <= 8; r++) {
            add(all, x.registerOf(r, 0));
            add(all, x.registerOf(r, 1));
        }
        for (int kind = 0; kind < 22; kind++) {
            add(all, x.names(kind));
            for (int what = 0; what < 4; what++) {
                add(all, x.count(kind, what));
            }
        }
        for (int what = 0; what < 4; what++) {
            add(all, x.unlike(what));
        }
        for (int k = 0; k < 15; k++) {
            all.append(witness(x, k));
        }
        add(all, x.blame());
        add(all, x.put(0));
        return all.toString();
    }

    private static String witness(WardEngine x, int k) {
        try {
            return x.witness(k) + " ";
        } catch (IllegalStateException e) {
            return "none ";
        }
    }

    private static String firstWords(WardEngine x) {
        return words(x, 0, 48);
    }

    private static String lastWords(WardEngine x) {
        return words(x, 48, 96);
    }

    private static String words(WardEngine x, int from, int to) {
        StringBuilder all = new StringBuilder();
        for (int k = from; k < to; k++) {
            for (int what = 0; what < 3; what++) {
                add(all, x.wordOf(k, what));
            }
        }
        return all.toString();
    }

    private static String code(WardEngine x) {
        StringBuilder all = new StringBuilder();
        for (int k = 0; k < 64; k++) {
            add(all, x.codeOf(k, 0));
            add(all, x.codeOf(k, 1));
        }
        for (int k = 0; k < x.state(1); k++) {
            add(all, x.output(k));
        }
        for (int k = 0; k < x.state(7); k++) {
            add(all, x.pairOf(k, 0));
            add(all, x.pairOf(k, 1));
        }
        return all.toString();
    }

    private static String kept(WardEngine x) {
        StringBuilder all = new StringBuilder();
        int entries = x.state(9);
        for (int i = 0; i < entries; i++) {
            for (int what = 0; what < 6; what++) {
                add(all, x.journal(i, what));
            }
        }
        int questions = x.state(8);
        for (int i = 0; i < questions; i++) {
            for (int what = 0; what < 25; what += what == 4 ? 6 : 1) {
                add(all, x.cacheOf(i, what));
            }
        }
        return all.toString();
    }

    private static String otherMachine(WardEngine x) {
        x.swap();
        StringBuilder all = new StringBuilder(kept(x));
        for (int what = 0; what < 10; what++) {
            add(all, x.state(what));
        }
        for (int k = 0; k < 12; k++) {
            add(all, x.codeOf(k, 0));
            add(all, x.wordOf(k, 2));
        }
        add(all, x.blame());
        return all.toString();
    }

    /** Inputs, clear, before and fresh, which show by what is done with them. */
    private static String goingOn(WardEngine x) {
        StringBuilder all = new StringBuilder();
        if (x.state(0) == 0) {
            x.code(40, 21, 7);
            x.code(41, Check.code(19, 5, 4, 0, 0), 8);
            x.code(42, Check.code(18, 6, 0, 0, 0), 9);
            x.register(8, 40, 0);
            add(all, x.run(2));
            for (int k = 0; k < 18; k++) {
                x.register(8, 42, 0);
                add(all, x.state(0) == 0 || x.state(0) == 5 ? x.run(1) : -1);
                add(all, x.registerOf(6, 0));
                add(all, x.registerOf(6, 1));
                add(all, x.registerOf(8, 1));
            }
        }
        return all + kept(x);
    }

    /** The text and both policies, which show by what is made of them. */
    private static String textAndPolicies(WardEngine x) {
        StringBuilder all = new StringBuilder();
        for (int kind = 0; kind < 22; kind++) {
            all.append(differ(x, kind));
        }
        add(all, x.image());
        for (int k = 0; k < 12; k++) {
            add(all, x.codeOf(k, 0));
        }
        add(all, x.policy());
        for (int kind = 0; kind < 22; kind++) {
            add(all, x.names(kind));
        }
        return all.toString();
    }

    private static String differ(WardEngine x, int kind) {
        try {
            return x.differ(kind, 1) + " " + x.witness(10) + " ";
        } catch (IllegalStateException e) {
            return "none ";
        }
    }
}
