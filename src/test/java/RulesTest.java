/** Section 2: what rules answer, by the tag that a rule gives a register (promises 4, 13, 15, 18). */
public final class RulesTest {
    public static void main(String[] args) {
        expressions();
        names();
        untold();
        orderOfStatements();
        pairs();
        Check.end("RulesTest");
    }

    /** The tag that an expression gives; a 6, b 10, c 3 are the tags, 20, 30, 40 the ints, 7 the PC's tag. */
    private static void gives(String expression, int due) {
        WardEngine x = new WardEngine();
        Check.is("policy " + expression, Check.policy(x, "add:tag=" + expression + ";"), WardEngine.NONE);
        x.begin(9);
        x.register(1, 20, 6);
        x.register(2, 30, 10);
        x.register(3, 40, 3);
        x.register(8, 2, 7);
        x.word(5, 0, 0, 77);
        x.code(2, Check.code(3, 1, 2, 3, -4), 8);
        x.run(1);
        Check.is(expression, x.registerOf(1, 1), due);
        Check.is("what is done has nothing to do with it", x.registerOf(1, 0), 70);
    }

    private static void expressions() {
        gives("1|2&4", 0);
        gives("4&1|2", 2);
        gives("1+2&2", 2);
        gives("10-3-2", 5);
        gives("10-(3-2)", 9);
        gives("6^3", 5);
        gives("1-2", -1);
        gives("-5", -5);
        gives("- - 5", 5);
        gives("2--5", 7);
        gives("~0", -1);
        gives("!0", 1);
        gives("!5", 0);
        gives("!!5", 1);
        gives("!a+1", 1);
        gives("-a+b", 4);
        gives("~a&b", 8);
        gives("1==1", 1);
        gives("1==2", 0);
        gives("1!=2", 1);
        gives("2!=2", 0);
        gives("1<2", 1);
        gives("2<2", 0);
        gives("2<=2", 1);
        gives("3<=2", 0);
        gives("-1<0", 1);
        gives("1+1==4-2", 1);
        gives("(1<2)==1", 1);
        gives("1?2:3", 2);
        gives("0?2:3", 3);
        gives("-1?2:3", 2);
        gives("1<2?5:6", 5);
        gives("0?1:0?2:3", 3);
        gives("1?0?1:2:3", 2);
        gives("(1?2:3)+1", 3);
        gives("1?2:3+1", 2);
        gives("9999999", 9999999);
        gives("2147483|~0-~0", 0);
        gives("first(5)", 5);
        gives("second(5)", 0);
        gives("first(1000000)", 1000000);
        gives("second(1000000)", 0);
        gives("base(0)", 0);
        gives("base(77)", 5);
        gives("base(78)", -1);
        gives("first(pair(4,5))", 4);
        gives("second(pair(4,5))", 5);
        gives("pair(4,5)", 1000000);
        gives("pair(4,5)-pair(5,4)", -1);
        gives("pair(4,5)-pair(4,5)", 0);
        gives("second(first(pair(pair(1,2),3)))", 2);
        gives("1?4:pair(1,2)", 4);
    }

    private static void names() {
        gives("pc", 7);
        gives("a", 6);
        gives("b", 10);
        gives("c", 3);
        gives("va", 20);
        gives("vb", 30);
        gives("vc", 40);
        gives("w", 0);
        gives("o", 0);
        gives("i", 0);
        gives("n", -4);
        gives("code", 8);
        gives("before", -1);
        gives("clear", 9);
        gives("fresh", 2);
        beforeAndFresh();
        wordNames();
        inputName();
        wholeBits();
        wrapping();
    }

    private static void wrapping() {
        WardEngine x = new WardEngine();
        Check.policy(x, "move:tag=b+1;next=-(b+1)-1;");
        x.register(2, 0, Integer.MAX_VALUE);
        x.code(0, Check.code(2, 1, 2, 0, 0), 0);
        x.run(1);
        Check.is("beyond the most", x.registerOf(1, 1), Integer.MIN_VALUE);
        Check.is("beyond the least", x.registerOf(8, 1), Integer.MAX_VALUE);
    }

    private static void beforeAndFresh() {
        WardEngine x = new WardEngine();
        Check.policy(x, "mark:tag=before;make:tag=fresh;owner=fresh;out:need 0;");
        x.register(2, 1, 0);
        x.code(0, Check.code(21, 1, 0, 0, 0), 5);
        x.code(1, Check.code(19, 3, 2, 0, 0), 6);
        x.code(2, Check.code(21, 4, 0, 0, 0), 7);
        x.code(3, Check.code(19, 5, 2, 0, 0), 8);
        x.code(4, Check.code(17, 0, 0, 0, 0), 9);
        Check.is("run", x.run(1), 1);
        Check.is("before the first one", x.registerOf(1, 1), -1);
        x.code(0, 0, 99);
        Check.is("run", x.run(4), 3);
        Check.is("fresh at first", x.registerOf(3, 1), 2);
        Check.is("before", x.registerOf(4, 1), 6);
        Check.is("fresh then", x.registerOf(5, 1), 3);
        Check.is("owners", x.wordOf(0, 2) * 10 + x.wordOf(1, 2), 23);
        Check.is("makes", x.state(6), 2);
        x.begin(0);
        x.code(0, Check.code(21, 1, 0, 0, 0), 5);
        x.run(1);
        Check.is("before after begin", x.registerOf(1, 1), -1);
    }

    private static void wordNames() {
        WardEngine x = new WardEngine();
        Check.policy(x, "load:tag=w;next=o;store:tag=w;owner=o+1;mark:tag=w+o;");
        x.word(12, 3, 41, 42);
        x.register(2, 10, 0);
        x.code(0, Check.code(11, 1, 2, 0, 2), 0);
        x.code(1, Check.code(12, 1, 2, 0, 2), 0);
        x.code(2, Check.code(21, 3, 2, 0, 2), 0);
        x.code(3, Check.code(11, 1, 2, 0, -11), 0);
        x.run(2);
        Check.is("w", x.registerOf(1, 1), 41);
        Check.is("o", x.registerOf(8, 1), 42);
        Check.is("w of a store", x.wordOf(12, 1), 41);
        Check.is("o of a store", x.wordOf(12, 2), 43);
        x.run(1);
        Check.is("w and o of others", x.registerOf(3, 1), 0);
        Check.is("a load beyond", x.run(1), 0);
        Check.is("is wrong", x.state(0), 2);
        Check.is("w beyond", x.cacheOf(3, 17), -2);
        Check.is("o beyond", x.cacheOf(3, 18), -2);
        x.begin(0);
        x.register(2, Integer.MAX_VALUE, 0);
        x.code(0, Check.code(11, 1, 2, 0, 1), 0);
        x.run(1);
        Check.is("a place that wraps", x.cacheOf(0, 17), -2);
        x.begin(0);
        Check.policy(x, "load:need w!=0-2;");
        x.code(0, Check.code(11, 1, 2, 0, 96), 0);
        x.run(1);
        Check.is("the violation comes first", x.state(0), 3);
    }

    private static void inputName() {
        WardEngine x = new WardEngine();
        Check.policy(x, "in:tag=i;out:tag=i;mark:tag=i;");
        x.code(0, Check.code(18, 1, 0, 0, 0), 0);
        x.code(1, Check.code(21, 2, 0, 0, 0), 0);
        x.code(2, Check.code(18, 3, 0, 0, 0), 0);
        x.run(1);
        Check.is("i without an input", x.cacheOf(0, 19), 0);
        x.input(5, 50);
        x.input(6, 60);
        x.run(3);
        Check.is("i", x.registerOf(1, 1), 50);
        Check.is("i of others", x.registerOf(2, 1), 0);
        Check.is("i of the next", x.registerOf(3, 1), 60);
        Check.is("the inputs", x.registerOf(1, 0) * 10 + x.registerOf(3, 0), 56);
        x.input(7, 70);
        x.begin(0);
        x.code(0, Check.code(18, 1, 0, 0, 0), 0);
        x.run(1);
        Check.is("i without an input", x.cacheOf(0, 19), 0);
    }

    private static void wholeBits() {
        WardEngine x = new WardEngine();
        Check.policy(x, "constant:tag=n;next=va;");
        x.code(0, 1 | 7 << 5 | 7 << 8 | 7 << 11 | 3 << 14 | 0x8000 << 16, 0);
        x.register(7, 3, 0);
        x.run(1);
        Check.is("n with sign", x.registerOf(7, 1), -32768);
        Check.is("the int before", x.registerOf(8, 1), 3);
        Check.is("the constant", x.registerOf(7, 0), -32768);
    }

    private static void untold() {
        WardEngine x = new WardEngine();
        Check.policy(x, "move,mark,store,make,drop,load:");
        x.register(8, 0, 5);
        for (int r = 0; r < 8; r++) {
            x.register(r, 1, 10 + r);
        }
        x.word(1, 4, 6, 7);
        x.word(2, 4, 6, 7);
        x.code(0, Check.code(2, 1, 2, 0, 0), 0);
        x.code(1, Check.code(21, 3, 0, 0, 0), 0);
        x.code(2, Check.code(12, 2, 2, 0, 0), 0);
        x.code(3, Check.code(19, 4, 2, 0, 0), 0);
        x.code(4, Check.code(20, 5, 2, 0, 0), 0);
        Check.is("all are done", x.run(5), 5);
        Check.is("move", x.registerOf(1, 1), 0);
        Check.is("mark", x.registerOf(3, 1), 13);
        Check.is("store: held", x.wordOf(1, 1), 0);
        Check.is("store: owner", x.wordOf(1, 2), 7);
        Check.is("make: tag", x.registerOf(4, 1), 0);
        Check.is("make: owner", x.wordOf(0, 2), 0);
        Check.is("drop of owner 0", x.wordOf(2, 2), 7);
        Check.is("drop's register", x.registerOf(5, 1), 15);
        Check.is("next", x.registerOf(8, 1), 5);
    }

    /** Rules that end in the midst of an expression, many times, and then one that is worked out to its end. */
    private static void nothingIsLeftOver() {
        WardEngine x = new WardEngine();
        Check.policy(x, "add:tag=pair(b,c);jump:move:tag=1+(2+(3+(4+pair(0-7,n))));");
        for (int k = 0; k < 40; k++) {
            x.begin(0);
            x.code(0, Check.code(3, 1, 1, 2, 0), 0);
            x.code(1, Check.code(13, 0, 0, 0, 0), 0);
            x.run(119);
            x.code(1, Check.code(2, 1, 1, 2, 0), 0);
            Check.is("no room", x.run(1), 0);
        }
        x.begin(0);
        x.code(0, Check.code(2, 1, 0, 0, 0), 0);
        x.run(1);
        Check.is("the sum", x.registerOf(1, 1), 1000010);
    }

    private static void orderOfStatements() {
        WardEngine x = new WardEngine();
        Check.policy(x, "move:tag=pair(1,2);need 0;next=pair(3,4);need 1;");
        x.code(0, 2, 0);
        x.register(0, 3, 9);
        Check.is("a violation", x.run(1), 0);
        Check.is("a violation", x.state(0), 3);
        Check.is("pairs ahead of the need are made", x.state(7), 1);
        Check.is("nothing is done", x.registerOf(0, 1), 9);
        Check.is("blame", x.blame(), "move:tag=pair(1,2);".length());
    }

    private static void pairs() {
        WardEngine x = new WardEngine();
        Check.policy(x, "add:tag=pair(b,c);jump:move:tag=pair(pair(b,1),pair(b,2));need 0;");
        x.code(0, Check.code(3, 1, 1, 2, 0), 0);
        x.code(1, Check.code(13, 0, 0, 0, 0), 0);
        Check.is("sixty pairs", x.run(119), 119);
        Check.is("sixty pairs", x.state(7), 60);
        Check.is("the last one", x.pairOf(59, 0), 1000058);
        Check.is("the last one", x.pairOf(59, 1), 0);
        Check.is("the first one", x.pairOf(0, 0), 0);
        Check.outside("pairOf(60, 0)", () -> x.pairOf(60, 0));
        Check.outside("pairOf(-1, 9)", () -> x.pairOf(-1, 9));
        Check.illegal("pairOf(0, 2)", () -> x.pairOf(0, 2));
        Check.illegal("pairOf(0, -1)", () -> x.pairOf(0, -1));
        x.twin();
        Check.is("the 61st", x.run(5), 1);
        Check.is("no room", x.state(0), 4);
        Check.is("how it ended", x.journal(0, 5), 4);
        Check.is("its tag", x.journal(0, 3), 0);
        Check.is("not done", x.count(3, 3), 1);
        Check.is("blame", x.blame(), WardEngine.NONE);
        Check.is("the register's tag", x.registerOf(1, 1), 1000059);
        x.swap();
        x.register(8, 5, 0);
        x.code(5, Check.code(3, 1, 1, 2, 0), 0);
        x.register(1, 0, 1000003);
        Check.is("a pair that is there", x.run(1), 1);
        Check.is("a pair that is there", x.registerOf(1, 1), 1000004);
        x.code(6, Check.code(2, 1, 1, 0, 0), 0);
        Check.is("pair comes ahead of need", x.run(1), 0);
        Check.is("so no room", x.state(0), 4);
        WardEngine y = new WardEngine();
        Check.policy(y, "move:tag=first(b);next=second(b);");
        y.register(1, 0, 1000000);
        y.code(0, Check.code(2, 2, 1, 0, 0), 0);
        y.run(1);
        Check.is("first of no pair", y.registerOf(2, 1), 1000000);
        Check.is("second of no pair", y.registerOf(8, 1), 0);
        Check.outside("pairOf(0, 0)", () -> y.pairOf(0, 0));
        nothingIsLeftOver();
    }
}
