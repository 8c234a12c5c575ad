/** The edges of what rules answer: section 2's expressions, names and pairs, and promise 18. */
public final class EdgesOfRulesTest {
    private static final int LEAST = Integer.MIN_VALUE;
    private static final int MOST = Integer.MAX_VALUE;
    private static final int ADD = 3;

    public static void main(String[] args) {
        intsWrap();
        comparisons();
        turned();
        leftToRight();
        theOtherOne();
        untold();
        untoldOfEachKind();
        registersThatTheBitsName();
        theWord();
        theInput();
        placesOfN();
        codeAndBefore();
        clear();
        fresh();
        pairNumbers();
        partsOfPairs();
        base();
        orderOfStatements();
        sixtyFirstPair();
        sixtyFirstAgainstNeeds();
        pairsThatStay();
        pairOf();
        Check.end("EdgesOfRulesTest");
    }

    /** The tag that an expression gives, b and c being the tags of two registers. */
    private static void gives(String expression, int b, int c, int due) {
        WardEngine x = Check.ruled("add:tag=" + expression + ";");
        x.register(2, 0, b);
        x.register(3, 0, c);
        x.code(0, Check.code(ADD, 1, 2, 3, 0), 0);
        Check.is("done", x.run(1), 1);
        Check.is(expression + " of " + b + ", " + c, x.registerOf(1, 1), due);
    }

    private static void intsWrap() {
        Check.sentence("Ints wrap");
        gives("b+c", MOST, 1, LEAST);
        gives("b+c", LEAST, LEAST, 0);
        gives("b+c", LEAST, -1, MOST);
        gives("b-c", LEAST, 1, MOST);
        gives("b-c", MOST, -1, LEAST);
        gives("b-c", 0, LEAST, LEAST);
        gives("-b", LEAST, 0, LEAST);
        gives("-b", MOST, 0, -MOST);
        gives("b+9999999", MOST, 0, MOST + 9999999);
        gives("b^c", LEAST, MOST, -1);
        gives("b|c", LEAST, MOST, -1);
        gives("b&c", LEAST, MOST, 0);
        gives("~b", LEAST, 0, MOST);
        gives("~b", -1, 0, 0);
    }

    private static void comparisons() {
        Check.sentence("== and so on give 1 or 0");
        int[] some = {LEAST, LEAST + 1, -1, 0, 1, MOST - 1, MOST};
        for (int b : some) {
            for (int c : some) {
                gives("b==c", b, c, b == c ? 1 : 0);
                gives("b!=c", b, c, b != c ? 1 : 0);
                gives("b<c", b, c, b < c ? 1 : 0);
                gives("b<=c", b, c, b <= c ? 1 : 0);
            }
        }
    }

    private static void turned() {
        Check.sentence("! 1 for 0, otherwise 0; ~ all bits turned");
        for (int b : new int[] {LEAST, -1, 0, 1, 2, MOST}) {
            gives("!b", b, 0, b == 0 ? 1 : 0);
            gives("!!b", b, 0, b == 0 ? 0 : 1);
            gives("~b", b, 0, -1 - b);
            gives("~~b", b, 0, b);
            gives("-~b", b, 0, b + 1);
        }
        // They are of the term, not of the sum.
        gives("!b+c", 0, 5, 6);
        gives("-b-c", 3, 4, -7);
        gives("~b|c", -1, 6, 6);
        gives("!b==c", 0, 1, 1);
    }

    private static void leftToRight() {
        Check.sentence("A sum: TERMS with | & ^ + or - between, from left to right.");
        gives("1|2&4", 0, 0, 0);
        gives("4&1|2", 0, 0, 2);
        gives("1+2&2", 0, 0, 2);
        gives("2&1+2", 0, 0, 2);
        gives("7^2|8", 0, 0, 13);
        gives("8-3-2", 0, 0, 3);
        gives("8-3+2", 0, 0, 7);
        gives("8-(3+2)", 0, 0, 3);
        gives("6^3+1", 0, 0, 6);
        gives("1+6^3", 0, 0, 4);
    }

    private static void theOtherOne() {
        Check.sentence("? takes the first if what is ahead isn't 0, and the other one isn't worked out");
        for (int b : new int[] {LEAST, -1, 1, MOST}) {
            gives("b?7:8", b, 0, 7);
        }
        gives("b?7:8", 0, 0, 8);
        gives("b?c?1:2:c?3:4", 0, 0, 4);
        gives("b?c?1:2:c?3:4", 0, 1, 3);
        gives("b?c?1:2:c?3:4", 1, 0, 2);
        gives("b?c?1:2:c?3:4", 1, 1, 1);
        gives("b<c?1+1:2+2", 1, 2, 2);
        for (int ahead = 0; ahead < 2; ahead++) {
            WardEngine x = Check.ruled("halt:tag=" + ahead + "?pair(1,1):pair(2,2);need 1?1:pair(3,3);need 0?pair(4,4):1;");
            Check.is("run", x.run(1), 1);
            Check.is("pairs", x.state(7), 1);
            Check.is("the one that was taken", x.pairOf(0, 0), 2 - ahead);
        }
    }

    private static void untold() {
        Check.sentence("What isn't told: tag 0 (of mark, the register's own); next the PC's own; owner the word's own (make and drop: 0).");
        WardEngine x = Check.ready("move,mark,store,make,drop,load,in,link,constant:",
                "register 8 0 tag 5;register 1 3 tag 11;register 2 1 tag 12;word 1 4 held 6 owner 7;word 2 5 held 6 owner 7;"
                + "word 0 1 held 1 owner 1;store a 1 b 2;mark a 1;load a 3 b 2 n 1;make a 4 b 2;");
        Check.is("run", x.run(4), 4);
        Check.row("store: held tag 0, the word's own owner", Check.word(x, 1), 3, 0, 7);
        Check.row("mark: the register's own", Check.register(x, 1), 3, 11);
        Check.row("load: tag 0", Check.register(x, 3), 5, 0);
        Check.row("load changes no word", Check.word(x, 2), 5, 6, 7);
        Check.row("make: tag 0", Check.register(x, 4), 3, 0);
        Check.is("make: owner 0", x.wordOf(3, 2), 0);
        Check.row("next: the PC's own", Check.register(x, 8), 4, 5);
        x.code(4, Check.code(20, 0, 0, 0, 0), 0);
        x.word(9, 1, 1, -1);
        x.word(10, 1, 1, 1);
        Check.is("drop", x.run(1), 1);
        Check.is("drop: owner 0, so that none is freed", x.wordOf(0, 2) + x.wordOf(1, 2) + x.wordOf(9, 2) + x.wordOf(10, 2), 8);
        Check.is("journal of drop", x.journal(0, 3), 0);
        Check.is("journal of mark", x.journal(3, 3), 11);
        WardEngine y = Check.ready("make:", "register 2 16;make a 1 b 2;make a 1 b 2;");
        Check.is("owner 0, too", y.run(2), 2);
        Check.is("they are free then", y.registerOf(1, 0), 0);
    }

    private static void untoldOfEachKind() {
        Check.sentence("TAG and NEXT, as it took them (also those that aren't told; also of kinds that set none)");
        for (int kind = 0; kind < 22; kind++) {
            WardEngine x = Check.ready(Model.KINDS.get(kind) + ":", "clear 51;register 8 0 tag 52;input 1 tag 53;");
            for (int r = 0; r < 8; r++) {
                x.register(r, r, 60 + r);
            }
            x.word(6, 1, 71, 72);
            x.code(0, Check.code(kind, 5, 6, 7, 0), 54);
            Check.is("kind " + kind, x.run(1), 1);
            int tag = kind == 21 ? 65 : 0;
            Check.row("journal of kind " + kind, Check.entry(x, 0), 0, kind, 2, tag, 52, kind == 0 ? 1 : 0);
            Check.row("cache of kind " + kind, new int[] {x.cacheOf(0, 2), x.cacheOf(0, 3), x.cacheOf(0, 4)}, 0, 0, 0);
            boolean sets = kind >= 1 && kind <= 11 || kind == 16 || kind == 18 || kind == 19;
            Check.is("a's tag behind kind " + kind, x.registerOf(5, 1), sets ? 0 : 65);
            Check.is("the held tag behind kind " + kind, x.wordOf(6, 1), kind == 12 ? 0 : 71);
            Check.is("the owner behind kind " + kind, x.wordOf(6, 2), 72);
        }
    }

    private static void registersThatTheBitsName() {
        Check.sentence("a b c (tags, before, of the registers that the bits name, whatever the kind); va vb vc (their ints)");
        for (int kind = 0; kind < 22; kind++) {
            WardEngine x = Check.ruled(Model.KINDS.get(kind) + ":next=a+b+c+va+vb+vc;");
            x.register(5, 1, 100);
            x.register(6, 2, 200);
            x.register(7, 3, 400);
            x.input(9, 9);
            x.code(0, Check.code(kind, 5, 6, 7, 0), 0);
            Check.is("kind " + kind, x.run(1), 1);
            Check.row("names of kind " + kind, new int[] {x.cacheOf(0, 11), x.cacheOf(0, 12), x.cacheOf(0, 13),
                x.cacheOf(0, 14), x.cacheOf(0, 15), x.cacheOf(0, 16)}, 100, 200, 400, 1, 2, 3);
            Check.is("next", x.registerOf(8, 1), 706);
        }
        WardEngine same = Check.ready("add:tag=a+b+c+va+vb+vc;", "register 0 3 tag 10;add;");
        same.run(1);
        Check.row("one register, before", Check.register(same, 0), 6, 39);
    }

    /** w and o of a kind whose b is 40 and whose n is told. */
    private static void word(int kind, int n, int w, int o) {
        WardEngine x = Check.ruled("load,store,mark,make,drop:tag=w;next=o;");
        x.word(0, 0, 1, 2);
        x.word(40, 0, 3, 4);
        x.word(95, 0, 5, 6);
        x.register(2, 40, 0);
        x.code(0, Check.code(kind, 1, 2, 0, n), 0);
        x.run(1);
        Check.row("kind " + kind + ", n " + n, new int[] {x.cacheOf(0, 17), x.cacheOf(0, 18)}, w, o);
    }

    private static void theWord() {
        Check.sentence("w o (the word's held tag and owner; -2 if it isn't there; of others than load and store 0)");
        for (int kind = 11; kind <= 12; kind++) {
            word(kind, 0, 3, 4);
            word(kind, -40, 1, 2);
            word(kind, -41, -2, -2);
            word(kind, 55, 5, 6);
            word(kind, 56, -2, -2);
            word(kind, 32767, -2, -2);
            word(kind, -32768, -2, -2);
        }
        for (int kind : new int[] {19, 20, 21}) {
            word(kind, 0, 0, 0);
            word(kind, 56, 0, 0);
        }
        WardEngine x = Check.ready("load:tag=w;next=o;", "load a 1 b 2 n 1;load a 1 b 3 n -1;word 0 0 held 8 owner 9;register 3 1;");
        x.register(2, -1, 0);
        Check.is("-1 + 1 and 1 - 1", x.run(2), 2);
        Check.row("word 0", new int[] {x.cacheOf(0, 17), x.cacheOf(0, 18)}, 8, 9);
        x.register(8, 0, 0);
        x.register(2, MOST, 0);
        Check.is("beyond the most", x.run(1), 0);
        Check.is("is no word", x.state(0), 2);
    }

    private static void theInput() {
        Check.sentence("i (the first input's tag; 0 without one, and of others than in)");
        WardEngine x = Check.ready("in,out,mark:tag=i+100;", "in a 1;mark a 2;in a 3;out;in a 4;");
        Check.is("without one", x.run(1), 0);
        Check.is("without one", x.cacheOf(0, 19), 0);
        x.input(1, 7);
        x.input(2, 8);
        Check.is("run", x.run(9), 4);
        Check.row("the first one", Check.register(x, 1), 1, 107);
        Check.is("of mark", x.registerOf(2, 1), 100);
        Check.row("the one that is first then", Check.register(x, 3), 2, 108);
        Check.is("of out", x.journal(1, 3), 100);
        Check.is("all went, so the first question once more", x.journal(0, 2), 3);
    }

    private static void placesOfN() {
        Check.sentence("16 .. 31 n (with sign); 14 and 15 mean nothing");
        for (int n : new int[] {-32768, -1, 0, 1, 32767}) {
            WardEngine x = Check.ruled("constant:tag=n;");
            x.code(0, Check.code(1, 1, 0, 0, n), 0);
            x.code(1, Check.code(1, 2, 0, 0, n) | 1 << 14, 0);
            x.code(2, Check.code(1, 3, 0, 0, n) | 1 << 15, 0);
            Check.is("run", x.run(3), 3);
            for (int r = 1; r <= 3; r++) {
                Check.row("n", Check.register(x, r), n, n);
            }
            Check.is("the bits 14 and 15 ask nothing else", x.state(4), 2);
        }
    }

    private static void codeAndBefore() {
        Check.sentence("code, before (the instruction's tag, and that of the one that was done before; -1 if none was)");
        WardEngine x = Check.ready("mark:tag=code;next=before;out:in:jump:", "mark a 1 tag 5;jump n 3 tag 6;halt;mark a 2 tag -7;in tag 8;mark tag 9;");
        Check.is("run", x.run(9), 3);
        Check.is("code", x.registerOf(1, 1), 5);
        Check.is("none was", x.journal(3, 4), -1);
        Check.is("code", x.registerOf(2, 1), -7);
        Check.is("the one that was done before", x.journal(1, 4), 6);
        Check.is("in waits", x.state(0), 5);
        x.run(1);
        x.input(1, 1);
        Check.is("in and mark", x.run(2), 2);
        Check.is("the one that was done, not the one that was tried", x.journal(0, 4), 8);
        WardEngine y = Check.ready("mark:tag=before;in:", "in tag 4;mark a 1 tag 5;");
        y.run(1);
        y.register(8, 1, 0);
        y.run(1);
        Check.is("in was not done, so none was", y.registerOf(1, 1), -1);
        y.register(8, 1, 0);
        y.code(1, Check.code(21, 1, 0, 0, 0), 99);
        y.run(1);
        Check.is("the tag that it had", y.registerOf(1, 1), 5);
    }

    private static void clear() {
        Check.sentence("clear (told with begin())");
        for (int clear : new int[] {0, -1, 5, LEAST, MOST}) {
            WardEngine x = Check.ruled("halt:next=clear;");
            x.begin(clear);
            x.run(1);
            Check.is("clear", x.registerOf(8, 1), clear);
        }
    }

    private static void fresh() {
        Check.sentence("fresh (how many makes were done + 2)");
        WardEngine x = Check.ready("make:owner=fresh;mark:tag=fresh;", "mark a 1;make a 2 b 3;mark a 4;make a 2 b 2;register 3 16;");
        Check.is("the second make has no room", x.run(9), 3);
        Check.is("at first", x.registerOf(1, 1), 2);
        Check.row("of the first make itself", Check.word(x, 15), 0, 0, 2);
        Check.is("behind it", x.registerOf(4, 1), 3);
        Check.is("that which was not done doesn't count", x.state(6), 1);
        x.begin(0);
        x.code(0, 21, 0);
        x.run(1);
        Check.is("behind begin", x.registerOf(0, 1), 2);
    }

    private static void pairNumbers() {
        Check.sentence("pair: a number from 1000000 on, the same for the same two, the next one for two that weren't paired yet");
        gives("pair(b,c)", 1, 2, 1000000);
        gives("pair(b,c)-pair(b,c)", 1, 2, 0);
        gives("pair(c,b)-pair(b,c)", 1, 2, -1);
        gives("pair(c,b)-pair(b,c)", 2, 2, 0);
        gives("pair(b,b)-pair(b,c)", 1, 2, -1);
        gives("pair(b,c)-pair(c,c)", 1, 2, -1);
        gives("pair(b,c)+pair(c,b)-pair(c,b)-pair(b,c)", LEAST, MOST, 0);
        gives("pair(pair(b,c),pair(b,c))", 1, 2, 1000001);
        gives("pair(0,0)", 0, 0, 1000000);
        // What stands first is worked out first.
        gives("pair(pair(b,b),pair(c,c))", 1, 2, 1000002);
        gives("first(first(pair(pair(b,b),pair(c,c))))-first(1000000)", 1, 2, 0);
        gives("pair(b,b)<pair(c,c)", 1, 2, 1);
        gives("pair(c,c)<=pair(b,b)", 1, 2, 1);
        gives("pair(b,c)==1000000?pair(c,b):0", 1, 2, 1000001);
        WardEngine x = Check.ready("add:tag=pair(b,c);", "add a 1 b 2 c 3;add a 4 b 3 c 2;add a 5 b 2 c 3;add a 6 b 2 c 2;"
                + "register 2 0 tag 7;register 3 0 tag -8;");
        Check.is("run", x.run(4), 4);
        Check.row("numbers", new int[] {x.registerOf(1, 1), x.registerOf(4, 1), x.registerOf(5, 1), x.registerOf(6, 1)},
                1000000, 1000001, 1000000, 1000002);
        Check.is("pairs", x.state(7), 3);
        Check.row("their parts", new int[] {x.pairOf(0, 0), x.pairOf(0, 1), x.pairOf(1, 0), x.pairOf(1, 1), x.pairOf(2, 0),
            x.pairOf(2, 1)}, 7, -8, -8, 7, 7, 7);
        x.begin(0);
        x.code(0, Check.code(ADD, 1, 2, 3, 0), 0);
        x.run(1);
        Check.is("from 1000000 on again", x.registerOf(1, 1), 1000000);
        Check.row("other parts", new int[] {x.pairOf(0, 0), x.pairOf(0, 1)}, 0, 0);
    }

    private static void partsOfPairs() {
        Check.sentence("first, second: of a pair its parts; of another number it, and 0");
        for (int b : new int[] {LEAST, -1, 0, 1, 999999, 1000000, 1000059, 1000060, MOST, LEAST + 1000000}) {
            gives("first(b)", b, 0, b);
            gives("second(b)", b, 0, 0);
        }
        // Two pairs are there: 1000000 and 1000001.
        int[] firsts = {999999, 5, 7, 1000002};
        int[] seconds = {0, 6, 8, 0};
        for (int k = 0; k < 4; k++) {
            String two = "0-0&pair(5,6)&pair(7,8)+";
            gives(two + "first(b)", 999999 + k, 0, firsts[k]);
            gives(two + "second(b)", 999999 + k, 0, seconds[k]);
        }
        gives("first(first(pair(pair(b,c),c)))", LEAST, MOST, LEAST);
        gives("second(first(pair(pair(b,c),b)))", LEAST, MOST, MOST);
        gives("second(second(pair(b,c)))", 4, 5, 0);
        gives("first(second(pair(b,c)))", 4, 5, 5);
    }

    private static void base() {
        Check.sentence("base: the least place of a word with that owner; NONE if there is none");
        WardEngine x = Check.ruled("mark:tag=base(va);");
        x.word(0, 0, 0, 4);
        x.word(7, 0, 9, 5);
        x.word(8, 0, 9, 5);
        x.word(94, 0, 0, 4);
        x.word(95, 0, 0, -6);
        int[] owners = {4, 5, -6, 0, 6, 9, LEAST};
        int[] due = {0, 7, 95, 1, -1, -1, -1};
        for (int k = 0; k < owners.length; k++) {
            x.code(k, Check.code(21, 1, 0, 0, 0), 0);
            x.register(1, owners[k], 0);
            Check.is("run", x.run(1), 1);
            Check.is("base(" + owners[k] + ")", x.registerOf(1, 1), due[k]);
        }
        x.word(0, 0, 0, 1);
        x.register(1, 4, 0);
        x.register(8, 0, 0);
        x.run(1);
        Check.is("worked out each time", x.registerOf(1, 1), 94);
        for (int k = 0; k < 96; k++) {
            x.word(k, 0, 0, 1);
        }
        x.register(1, 0, 0);
        x.run(1);
        Check.is("no word is free", x.registerOf(1, 1), -1);
        Check.is("no question", x.state(3), 0);
    }

    private static void orderOfStatements() {
        Check.sentence("Statements are worked out in order; a need that is 0 ends it .. pairs that were made stay");
        WardEngine x = Check.ready("halt:need pair(1,1);tag=pair(2,2);need 0;next=pair(3,3);need pair(4,4);owner=pair(5,5);", "");
        Check.is("run", x.run(1), 0);
        Check.is("a violation", x.state(0), 3);
        Check.is("those ahead of it", x.state(7), 2);
        Check.is("those ahead of it", x.pairOf(1, 1), 2);
        WardEngine y = Check.ready("halt:need pair(1,1)&0;need pair(2,2);", "");
        Check.is("run", y.run(1), 0);
        Check.is("its own pair stays", y.state(7), 1);
        for (int need : new int[] {LEAST, -1, 1, MOST}) {
            WardEngine z = Check.ready("halt:need va;", "");
            z.register(0, need, 0);
            Check.is("need " + need, z.run(1), 1);
        }
    }

    /** A machine with so many pairs (1, 0), (2, 0) .. whose next instruction is a halt at place 2. */
    private static WardEngine withPairs(int count, String ruleOfHalt) {
        WardEngine x = Check.ready("add:need pair(vb+1,0);jump:halt:" + ruleOfHalt, "add a 1 b 1 c 2;jump;halt;register 2 1;");
        x.run(2 * count);
        Check.is("pairs", x.state(7), count);
        x.register(8, 2, 0);
        return x;
    }

    private static void sixtyFirstPair() {
        Check.sentence("NO ROOM (4), if its rule would make the 61st pair");
        WardEngine x = withPairs(59, "tag=pair(0,1);");
        Check.is("the 60th", x.run(1), 1);
        Check.is("its number", x.journal(0, 3), 1000059);
        Check.is("sixty", x.state(7), 60);
        WardEngine y = withPairs(60, "tag=pair(0,1);");
        Check.is("the 61st", y.run(1), 0);
        Check.is("no room", y.state(0), 4);
        Check.row("journal", Check.entry(y, 0), 2, 0, 1, 0, 0, 4);
        Check.row("counts", Check.counts(y, 0), 0, 0, 0, 1);
        Check.is("sixty", y.state(7), 60);
        Check.is("blame", y.blame(), WardEngine.NONE);
        Check.is("PC stays", y.registerOf(8, 0), 2);
        Check.badState("it has stopped", () -> y.run(1));
        WardEngine z = withPairs(60, "tag=pair(60,0);next=pair(1,0);need first(1000059)==60;");
        Check.is("pairs that are there", z.run(1), 1);
        Check.row("their numbers", new int[] {z.journal(0, 3), z.journal(0, 4)}, 1000059, 1000000);
        WardEngine both = withPairs(59, "tag=pair(0,1);next=pair(0,2);");
        Check.is("the 60th and the 61st", both.run(1), 0);
        Check.is("no room", both.state(0), 4);
        Check.is("the 60th stays", both.state(7), 60);
        Check.row("the 60th stays", new int[] {both.pairOf(59, 0), both.pairOf(59, 1)}, 0, 1);
        WardEngine other = withPairs(60, "tag=1?4:pair(0,1);");
        Check.is("one that isn't worked out", other.run(1), 1);
    }

    private static void sixtyFirstAgainstNeeds() {
        Check.sentence("a VIOLATION (3), if a need of its rule is 0, or NO ROOM (4) .. (which of both comes first in the rule)");
        String[] rules = {"need 0;tag=pair(0,1);", "tag=pair(0,1);need 0;", "need pair(0,1)&0;", "need 0;need pair(0,1);",
            "need 1;need pair(0,1);need 0;", "need 1;need 0;owner=pair(0,1);"};
        int[] due = {3, 4, 4, 3, 4, 3};
        for (int k = 0; k < rules.length; k++) {
            WardEngine x = withPairs(60, rules[k]);
            Check.is("run", x.run(1), 0);
            Check.is(rules[k], x.state(0), due[k]);
            Check.is("blame of " + rules[k], x.blame() != WardEngine.NONE ? 3 : 4, due[k]);
        }
    }

    private static void pairsThatStay() {
        Check.sentence("It STOPS, with nothing done (but pairs that were made");
        WardEngine wrong = Check.ready("load:tag=pair(1,2);", "load n 96;");
        Check.is("run", wrong.run(1), 0);
        Check.row("a load that is wrong", new int[] {wrong.state(0), wrong.state(7)}, 2, 1);
        WardEngine make = Check.ready("make:tag=pair(1,2);", "make;");
        Check.is("run", make.run(1), 0);
        Check.row("a make without room", new int[] {make.state(0), make.state(7)}, 4, 1);
        WardEngine waits = Check.ready("in:tag=pair(i,1);", "in a 1;");
        Check.is("run", waits.run(1), 0);
        Check.row("an in that waits", new int[] {waits.state(0), waits.state(7)}, 5, 1);
        waits.run(1);
        Check.is("the same when it tries again", waits.state(7), 1);
        waits.input(3, 4);
        Check.is("goes on", waits.run(1), 1);
        Check.row("another one now", new int[] {waits.state(7), waits.registerOf(1, 1)}, 2, 1000001);
    }

    private static void pairOf() {
        Check.sentence("pairOf: IndexOutOfBoundsException if there is none such; IllegalArgumentException for another what");
        WardEngine none = new WardEngine();
        Check.outside("without pairs", () -> none.pairOf(0, 0));
        Check.outside("the pair goes first", () -> none.pairOf(0, 2));
        WardEngine x = withPairs(60, "");
        for (int k : new int[] {-1, 60, 1000000, LEAST, MOST}) {
            Check.outside("pairOf(" + k + ", 0)", () -> x.pairOf(k, 0));
            Check.outside("the pair goes first", () -> x.pairOf(k, -1));
        }
        for (int what : new int[] {-1, 2, LEAST, MOST}) {
            Check.illegal("pairOf(0, " + what + ")", () -> x.pairOf(0, what));
            Check.illegal("pairOf(59, " + what + ")", () -> x.pairOf(59, what));
        }
        Check.row("the first and the last", new int[] {x.pairOf(0, 0), x.pairOf(0, 1), x.pairOf(59, 0), x.pairOf(59, 1)}, 1, 0, 60, 0);
    }
}
