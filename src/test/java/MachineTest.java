/** Promises 8 to 18: begin, code, word, register, input, run, state, registerOf, wordOf, output (pairOf: RulesTest). */
public final class MachineTest {
    private static final String ALL = String.join(",", Model.KINDS) + ":";

    public static void main(String[] args) {
        setting();
        begin();
        registerKinds();
        jumps();
        wordsAndStores();
        outputs();
        inputs();
        makeAndDrop();
        run();
        wrongOnes();
        tags();
        Check.end("MachineTest");
    }

    private static WardEngine engine(String policy) {
        WardEngine x = new WardEngine();
        Check.is("policy " + policy, Check.policy(x, policy), WardEngine.NONE);
        return x;
    }

    private static void setting() {
        WardEngine x = new WardEngine();
        x.word(95, 1, 2, 3);
        Check.is("word", x.wordOf(95, 0) * 100 + x.wordOf(95, 1) * 10 + x.wordOf(95, 2), 123);
        x.register(7, 4, 5);
        x.register(8, Integer.MIN_VALUE, 6);
        Check.is("register", x.registerOf(7, 0) * 10 + x.registerOf(7, 1), 45);
        Check.is("PC", x.registerOf(8, 0), Integer.MIN_VALUE);
        Check.is("PC's tag", x.registerOf(8, 1), 6);
        for (int k : new int[] {-1, 64, Integer.MAX_VALUE, Integer.MIN_VALUE}) {
            Check.outside("code", () -> x.code(k, 0, 0));
        }
        for (int k : new int[] {-1, 96, Integer.MAX_VALUE, Integer.MIN_VALUE}) {
            Check.outside("word", () -> x.word(k, 0, 0, 0));
            Check.outside("wordOf", () -> x.wordOf(k, 9));
        }
        for (int k : new int[] {-1, 9, Integer.MAX_VALUE, Integer.MIN_VALUE}) {
            Check.outside("register", () -> x.register(k, 0, 0));
            Check.outside("registerOf", () -> x.registerOf(k, 9));
        }
        for (int what : new int[] {-1, 3, Integer.MAX_VALUE}) {
            Check.illegal("wordOf", () -> x.wordOf(0, what));
        }
        for (int what : new int[] {-1, 2, Integer.MAX_VALUE}) {
            Check.illegal("registerOf", () -> x.registerOf(0, what));
            Check.illegal("registerOf", () -> x.registerOf(8, what));
        }
        for (int what : new int[] {-1, 10, Integer.MIN_VALUE}) {
            Check.illegal("state", () -> x.state(what));
        }
    }

    /** One that was busy and begins anew, while its twin has still to run. */
    private static WardEngine begun() {
        WardEngine x = engine("constant:tag=pair(n,clear);out,in,make:owner=1;halt:need 0;move:tag=clear;");
        x.code(0, Check.code(1, 1, 0, 0, 1), 4);
        x.code(1, Check.code(17, 1, 0, 0, 0), 4);
        x.code(2, Check.code(19, 2, 1, 0, 0), 4);
        x.input(3, 4);
        x.word(90, 1, 2, 3);
        x.twin();
        Check.is("run", x.run(9), 3);
        Check.is("a violation", x.state(0), 3);
        Check.is("blame", x.blame() > 0 ? 1 : 0, 1);
        x.begin(6);
        return x;
    }

    private static void begin() {
        WardEngine words = begun();
        for (int k = 0; k < 96; k++) {
            Check.is("word " + k, words.wordOf(k, 0) | words.wordOf(k, 1) | words.wordOf(k, 2), 0);
        }
        WardEngine x = begun();
        for (int what = 0; what < 10; what++) {
            Check.is("state(" + what + ")", x.state(what), 0);
        }
        Check.is("blame", x.blame(), WardEngine.NONE);
        for (int k = 0; k < 64; k++) {
            Check.is("code " + k, x.codeOf(k, 0) | x.codeOf(k, 1), 0);
        }
        for (int r = 0; r < 9; r++) {
            Check.is("register " + r, x.registerOf(r, 0) | x.registerOf(r, 1), 0);
        }
        for (int kind = 0; kind < 22; kind++) {
            for (int what = 0; what < 4; what++) {
                Check.is("count", x.count(kind, what), 0);
            }
        }
        Check.outside("output(0)", () -> x.output(0));
        Check.outside("pairOf(0, 0)", () -> x.pairOf(0, 0));
        Check.outside("journal(0, 0)", () -> x.journal(0, 0));
        Check.outside("cacheOf(0, 0)", () -> x.cacheOf(0, 0));
        Check.is("the policy stays", x.names(2), 1 << 13);
        Check.is("the text stays", x.put(0) > 0 ? 1 : 0, 1);
        x.code(0, 2, 0);
        x.run(1);
        Check.is("clear", x.registerOf(0, 1), 6);
        x.swap();
        Check.is("the other machine stays", x.wordOf(90, 2), 3);
        Check.is("the other machine stays", x.state(5), 1);
    }

    private static void does(int kind, int b, int c, int n, int due) {
        WardEngine x = engine(ALL + "tag=9;next=8;");
        x.register(1, 77, 1);
        x.register(2, b, 2);
        x.register(3, c, 3);
        x.code(0, Check.code(kind, 1, 2, 3, n), 0);
        Check.is("done", x.run(1), 1);
        Check.is("kind " + kind + " of " + b + ", " + c, x.registerOf(1, 0), due);
        Check.is("its tag", x.registerOf(1, 1), 9);
        Check.is("PC", x.registerOf(8, 0), 1);
        Check.is("PC's tag", x.registerOf(8, 1), 8);
        Check.is("b stays", x.registerOf(2, 0), b);
        Check.is("b's tag stays", x.registerOf(2, 1), 2);
    }

    private static void registerKinds() {
        int most = Integer.MAX_VALUE;
        int least = Integer.MIN_VALUE;
        does(1, 5, 6, -7, -7);
        does(1, 5, 6, 32767, 32767);
        does(2, 5, 6, 7, 5);
        does(3, 5, 6, 7, 11);
        does(3, most, 1, 0, least);
        does(4, 5, 6, 7, -1);
        does(4, least, 1, 0, most);
        does(5, 5, 6, 7, 30);
        does(5, 65536, 65536, 0, 0);
        does(6, 12, 10, 0, 8);
        does(7, 12, 10, 0, 14);
        does(8, 12, 10, 0, 6);
        does(9, 5, 6, 0, 1);
        does(9, 6, 6, 0, 0);
        does(9, least, most, 0, 1);
        does(9, most, least, 0, 0);
        does(10, 6, 6, 0, 1);
        does(10, 5, 6, 0, 0);
        does(21, 5, 6, 7, 77);
    }

    private static void goes(int kind, int a, int b, int n, int due) {
        WardEngine x = engine(ALL + "tag=9;next=8;");
        x.register(1, a, 1);
        x.register(2, b, 2);
        x.register(8, 5, 0);
        x.code(5, Check.code(kind, 1, 2, 0, n), 0);
        Check.is("done", x.run(1), 1);
        Check.is("PC behind kind " + kind, x.registerOf(8, 0), due);
        Check.is("PC's tag", x.registerOf(8, 1), 8);
        Check.is("a", x.registerOf(1, 0), kind == 16 ? 6 : a);
        Check.is("a's tag", x.registerOf(1, 1), kind == 16 ? 9 : 1);
        Check.is("state", x.state(0), kind == 0 ? 1 : 0);
    }

    private static void jumps() {
        goes(0, 1, 2, 3, 5);
        goes(13, 0, 2, 40, 40);
        goes(13, 0, 2, -40, -40);
        goes(14, 0, 2, 40, 6);
        goes(14, -1, 2, 40, 40);
        goes(15, 0, 33, 40, 33);
        goes(15, 0, Integer.MIN_VALUE, 40, Integer.MIN_VALUE);
        goes(16, 0, 33, 40, 40);
        WardEngine x = engine(ALL);
        x.register(1, 20, 0);
        x.code(0, Check.code(16, 1, 1, 0, 7), 0);
        x.code(7, Check.code(15, 0, 1, 0, 0), 0);
        Check.is("link and back", x.run(3), 3);
        Check.is("halted at 1", x.registerOf(8, 0), 1);
    }

    private static void wordsAndStores() {
        WardEngine x = engine("load:tag=5;store:tag=6;owner=7;halt:");
        x.word(95, 11, 12, 13);
        x.register(2, 100, 0);
        x.code(0, Check.code(11, 1, 2, 0, -5), 0);
        x.code(1, Check.code(12, 1, 2, 0, -100), 0);
        x.code(2, Check.code(12, 1, 2, 0, -4), 0);
        Check.is("load and store", x.run(2), 2);
        Check.is("loaded", x.registerOf(1, 0) * 10 + x.registerOf(1, 1), 115);
        Check.is("stored", x.wordOf(0, 0) * 100 + x.wordOf(0, 1) * 10 + x.wordOf(0, 2), 1167);
        Check.is("a load's owner changes nothing", x.wordOf(95, 2), 13);
        Check.is("a store at 96", x.run(1), 0);
        Check.is("is wrong", x.state(0), 2);
        Check.is("PC stays", x.registerOf(8, 0), 2);
        Check.is("its question counts", x.state(3), 3);
        Check.is("not done", x.count(12, 3), 1);
        Check.is("journal", x.journal(0, 2) * 100 + x.journal(0, 3) * 10 + x.journal(0, 5), 302);
    }

    private static void outputs() {
        WardEngine x = engine("out:constant:add:jump:");
        x.code(0, Check.code(17, 1, 0, 0, 0), 0);
        x.code(1, Check.code(3, 1, 1, 2, 0), 0);
        x.code(2, Check.code(13, 0, 0, 0, 0), 0);
        x.register(1, 100, 0);
        x.register(2, 3, 0);
        Check.outside("output(0)", () -> x.output(0));
        x.run(3 * 39);
        Check.outside("output(39)", () -> x.output(39));
        x.run(3 * 6);
        Check.is("how many", x.state(1), 45);
        for (int i = 0; i < 40; i++) {
            Check.is("output " + i, x.output(i), 100 + 3 * i);
        }
        Check.outside("output(40)", () -> x.output(40));
        Check.outside("output(-1)", () -> x.output(-1));
    }

    private static void inputs() {
        WardEngine x = engine("in:tag=i+1;halt:");
        x.code(0, Check.code(18, 1, 0, 0, 0), 0);
        x.code(1, Check.code(18, 2, 0, 0, 0), 0);
        x.register(1, 5, 6);
        Check.is("it waits", x.run(5), 0);
        Check.is("it waits", x.state(0), 5);
        Check.is("still", x.run(5), 0);
        Check.is("each try asks", x.state(3), 2);
        Check.is("each try asks", x.state(4), 1);
        Check.is("each try is in the journal", x.state(9), 2);
        Check.is("each try", x.journal(0, 5) * 10 + x.journal(1, 5), 55);
        Check.is("nothing with 0", x.run(0), 0);
        Check.is("nothing with 0", x.state(9), 2);
        Check.is("nothing with 0", x.state(0), 5);
        Check.is("nothing is set", x.registerOf(1, 1), 6);
        Check.is("an input", x.input(40, 50), 1);
        Check.is("waits till run", x.state(0), 5);
        Check.is("goes on", x.run(1), 1);
        Check.is("goes on", x.state(0), 0);
        Check.is("the input", x.registerOf(1, 0) * 100 + x.registerOf(1, 1), 4051);
        Check.is("it went", x.state(5), 0);
        for (int k = 1; k <= 16; k++) {
            Check.is("input " + k, x.input(k, -k), k);
        }
        Check.full("the 17th", () -> x.input(17, 0));
        Check.is("sixteen", x.state(5), 16);
        x.run(1);
        Check.is("the first one", x.registerOf(2, 0) * 100 + x.registerOf(2, 1), 100);
        Check.is("room again", x.input(17, 18), 16);
        for (int k = 2; k <= 17; k++) {
            x.register(8, 0, 0);
            x.run(1);
            Check.is("input " + k, x.registerOf(1, 0), k);
            Check.is("its tag", x.registerOf(1, 1), k == 17 ? 19 : 1 - k);
        }
    }

    private static void makeAndDrop() {
        WardEngine x = engine("make:tag=2;owner=fresh;drop:owner=va;halt:");
        x.word(0, 1, 1, 9);
        x.word(1, 1, 1, 9);
        x.word(4, 1, 1, 9);
        x.word(5, 3, 4, 0);
        x.register(2, 2, 0);
        x.register(3, 9, 0);
        x.code(0, Check.code(19, 1, 2, 0, 0), 0);
        x.code(1, Check.code(19, 4, 3, 0, 0), 0);
        x.code(2, Check.code(20, 3, 0, 0, 0), 0);
        x.code(3, Check.code(19, 5, 5, 0, 0), 0);
        Check.is("made", x.run(2), 2);
        Check.is("the first two that are free together", x.registerOf(1, 0), 2);
        Check.is("a's tag", x.registerOf(1, 1), 2);
        Check.is("owners", x.wordOf(2, 2) * 10 + x.wordOf(3, 2), 22);
        Check.is("the first nine", x.registerOf(4, 0), 5);
        Check.is("they are empty", x.wordOf(5, 0) + x.wordOf(5, 1), 0);
        Check.is("theirs", x.wordOf(5, 2) * 10 + x.wordOf(13, 2), 33);
        Check.is("no more", x.wordOf(14, 2), 0);
        Check.is("makes", x.state(6), 2);
        x.run(1);
        Check.is("dropped", x.wordOf(0, 2) + x.wordOf(1, 2) + x.wordOf(4, 2), 0);
        Check.is("nothing else of them", x.wordOf(1, 0) + x.wordOf(4, 1), 2);
        Check.is("drop sets no register", x.registerOf(3, 0) * 10 + x.registerOf(3, 1), 90);
        Check.is("others stay", x.wordOf(2, 2), 2);
        Check.is("make of 0", x.run(1), 0);
        Check.is("has no room", x.state(0), 4);
        Check.is("makes", x.state(6), 2);
        Check.is("not done", x.count(19, 3), 1);
        noRoom(17);
        noRoom(-1);
        noRoom(Integer.MIN_VALUE);
        sixteen();
        sameRegister();
    }

    private static void noRoom(int many) {
        WardEngine x = engine("make:owner=1;");
        x.register(2, many, 0);
        x.code(0, Check.code(19, 1, 2, 0, 0), 0);
        Check.is("make of " + many, x.run(1), 0);
        Check.is("has no room", x.state(0), 4);
    }

    private static void sixteen() {
        WardEngine x = engine("make:owner=1;jump:");
        x.register(2, 16, 0);
        x.code(0, Check.code(19, 1, 2, 0, 0), 0);
        x.code(1, Check.code(13, 0, 0, 0, 0), 0);
        Check.is("six times sixteen", x.run(100), 12);
        Check.is("and no more", x.state(0), 4);
        Check.is("the last place", x.registerOf(1, 0), 80);
        Check.is("all of them", x.wordOf(95, 2), 1);
    }

    private static void sameRegister() {
        WardEngine x = engine("make:owner=0;");
        x.word(0, 5, 6, 0);
        x.register(1, 3, 0);
        x.code(0, Check.code(19, 1, 1, 0, 0), 0);
        x.word(0, 1, 1, 1);
        x.word(3, 8, 8, 0);
        Check.is("done", x.run(1), 1);
        Check.is("a and b the same", x.registerOf(1, 0), 1);
        Check.is("all three are empty", x.wordOf(3, 0) + x.wordOf(3, 1), 0);
        Check.is("free still", x.wordOf(1, 2), 0);
    }

    private static void run() {
        WardEngine x = engine("jump,halt:");
        x.code(0, Check.code(13, 0, 0, 0, 0), 0);
        Check.illegal("run(-1)", () -> x.run(-1));
        Check.illegal("run(2001)", () -> x.run(2001));
        Check.is("run(0)", x.run(0), 0);
        Check.is("run(2000)", x.run(2000), 2000);
        Check.is("done", x.state(2), 2000);
        Check.is("goes on", x.state(0), 0);
        x.code(0, 0, 0);
        Check.is("halt counts", x.run(9), 1);
        Check.is("done", x.state(2), 2001);
        Check.is("halted", x.state(0), 1);
        Check.badState("run(0) when it has stopped", () -> x.run(0));
        Check.badState("run(1) when it has stopped", () -> x.run(1));
        Check.illegal("n goes first", () -> x.run(2001));
        x.register(8, 5, 0);
        Check.badState("a new PC changes nothing", () -> x.run(1));
    }

    private static void wrongOnes() {
        for (int p : new int[] {-1, 64, Integer.MAX_VALUE, Integer.MIN_VALUE}) {
            WardEngine x = engine(ALL);
            x.register(8, p, 3);
            Check.is("run", x.run(1), 0);
            Check.is("wrong", x.state(0), 2);
            Check.is("PC stays", x.registerOf(8, 0), p);
            Check.is("no question", x.state(3), 0);
            Check.is("journal", x.journal(0, 0), p);
            Check.is("journal", x.journal(0, 1), WardEngine.NONE);
            Check.is("journal", x.journal(0, 2), 0);
            Check.is("journal", x.journal(0, 5), 2);
        }
        for (int kind = 22; kind < 32; kind++) {
            WardEngine x = engine(ALL);
            x.code(0, kind, 0);
            Check.is("run", x.run(1), 0);
            Check.is("wrong", x.state(0), 2);
            Check.is("no question", x.state(3), 0);
            Check.is("journal", x.journal(0, 1), kind);
            Check.is("journal", x.journal(0, 2), 0);
        }
        WardEngine x = engine(ALL);
        x.register(8, 63, 0);
        x.code(63, 21, 0);
        Check.is("the last place and beyond", x.run(2), 1);
        Check.is("wrong", x.state(0), 2);
        Check.is("PC", x.registerOf(8, 0), 64);
        WardEngine y = engine("mark:");
        Check.is("halt without a rule", y.run(1), 0);
        Check.is("wrong", y.state(0), 2);
        Check.is("journal", y.journal(0, 1), 0);
        Check.is("its rule wasn't asked", y.count(0, 3), 0);
        WardEngine z = engine("load:need 0;in:need 0;make:need 0;");
        for (int kind : new int[] {11, 18, 19}) {
            z.begin(0);
            z.code(0, Check.code(kind, 0, 0, 0, 96), 0);
            z.run(1);
            Check.is("the need comes first", z.state(0), 3);
        }
    }

    private static void tags() {
        WardEngine x = engine("halt:next=pc+1;out:tag=4;next=a;");
        x.register(8, 0, 5);
        x.register(1, 2, 3);
        x.code(0, Check.code(17, 1, 0, 0, 0), 0);
        x.run(2);
        Check.is("next of halt", x.registerOf(8, 1), 4);
        Check.is("out sets no register", x.registerOf(1, 1), 3);
        Check.is("but its tag is told", x.journal(1, 3), 4);
    }
}
