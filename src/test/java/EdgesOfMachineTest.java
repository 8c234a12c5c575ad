/** The edges of section 1 and of promises 8 to 12 and 15 to 17: places, inputs, outputs, what each kind does. */
public final class EdgesOfMachineTest {
    private static final int LEAST = Integer.MIN_VALUE;
    private static final int MOST = Integer.MAX_VALUE;
    private static final int[] FAR = {LEAST, MOST};
    private static final String ALL = String.join(",", Model.KINDS) + ":";

    public static void main(String[] args) {
        code();
        everyBit();
        words();
        registers();
        inputs();
        inputsInOrder();
        outputs();
        kindsWithoutARule();
        eachDoesSoMuch();
        oneRegister();
        placeBehind();
        intsWrap();
        belowAndLike();
        halt();
        jumps();
        link();
        whereNothingIsSet();
        addressesOfWords();
        storesToAnOwnWord();
        makeSizes();
        makeFindsTheFirst();
        makeAtTheEnd();
        makeWithoutAnOwner();
        drop();
        begin();
        Check.end("EdgesOfMachineTest");
    }

    private static void code() {
        Check.sentence("64 places of CODE (0 .. 63) .. code, codeOf: IndexOutOfBoundsException if it isn't there");
        WardEngine x = new WardEngine();
        for (int k : new int[] {0, 63}) {
            x.code(k, LEAST + k, MOST - k);
            Check.row("code " + k, new int[] {x.codeOf(k, 0), x.codeOf(k, 1)}, LEAST + k, MOST - k);
        }
        for (int k : new int[] {-1, 64, LEAST, MOST}) {
            Check.outside("code(" + k + ", ..)", () -> x.code(k, 1, 1));
            Check.outside("codeOf(" + k + ", 0)", () -> x.codeOf(k, 0));
            Check.outside("codeOf(" + k + ", 1)", () -> x.codeOf(k, 1));
            Check.outside("the place goes first", () -> x.codeOf(k, 2));
        }
        Check.sentence("codeOf: IllegalArgumentException for another what");
        for (int what : new int[] {-1, 2, LEAST, MOST}) {
            Check.illegal("codeOf(0, " + what + ")", () -> x.codeOf(0, what));
            Check.illegal("codeOf(63, " + what + ")", () -> x.codeOf(63, what));
        }
        Check.row("its neighbours", new int[] {x.codeOf(1, 0), x.codeOf(1, 1), x.codeOf(62, 0), x.codeOf(62, 1)}, 0, 0, 0, 0);
        x.code(0, 0, 5);
        Check.row("once more", new int[] {x.codeOf(0, 0), x.codeOf(0, 1)}, 0, 5);
    }

    private static void everyBit() {
        Check.sentence("an int and a TAG each .. an int and two tags each, HELD and OWNER .. Tags are ints.");
        for (int bit = 0; bit < 32; bit++) {
            int v = 1 << bit;
            WardEngine x = Check.ready("in,out:", "in a 2;out a 2;out a 1;");
            x.code(9, v, ~v);
            x.word(9, v, ~v, -v);
            x.register(1, ~v, v);
            x.input(v, ~v);
            Check.row("code", new int[] {x.codeOf(9, 0), x.codeOf(9, 1)}, v, ~v);
            Check.row("word", Check.word(x, 9), v, ~v, -v);
            Check.row("register", Check.register(x, 1), ~v, v);
            Check.is("run", x.run(3), 3);
            Check.row("outputs", new int[] {x.output(0), x.output(1)}, v, ~v);
            x.register(8, ~v, v);
            Check.row("PC", Check.register(x, 8), ~v, v);
        }
    }

    private static void words() {
        Check.sentence("96 WORDS (0 .. 95) .. word, wordOf: IndexOutOfBoundsException if it isn't there");
        WardEngine x = new WardEngine();
        for (int k : new int[] {0, 95}) {
            x.word(k, LEAST, MOST, -k - 1);
            Check.row("word " + k, Check.word(x, k), LEAST, MOST, -k - 1);
        }
        for (int k : new int[] {-1, 96, LEAST, MOST}) {
            Check.outside("word(" + k + ", ..)", () -> x.word(k, 1, 1, 1));
            for (int what = -1; what <= 3; what++) {
                int w = what;
                Check.outside("wordOf(" + k + ", " + w + ")", () -> x.wordOf(k, w));
            }
        }
        Check.sentence("wordOf: IllegalArgumentException for another what");
        for (int what : new int[] {-1, 3, LEAST, MOST}) {
            Check.illegal("wordOf(0, " + what + ")", () -> x.wordOf(0, what));
            Check.illegal("wordOf(95, " + what + ")", () -> x.wordOf(95, what));
        }
        Check.row("a neighbour", Check.word(x, 94), 0, 0, 0);
    }

    private static void registers() {
        Check.sentence("register: the PC if r is 8 (its place is any int). IndexOutOfBoundsException if there is none such.");
        WardEngine x = new WardEngine();
        for (int r = 0; r <= 8; r++) {
            x.register(r, r + 10, r + 20);
        }
        for (int r = 0; r <= 8; r++) {
            Check.row("register " + r, Check.register(x, r), r + 10, r + 20);
        }
        for (int place : new int[] {-1, 64, LEAST, MOST}) {
            x.register(8, place, place);
            Check.row("PC", Check.register(x, 8), place, place);
        }
        for (int r : new int[] {-1, 9, LEAST, MOST}) {
            Check.outside("register(" + r + ", ..)", () -> x.register(r, 1, 1));
            for (int what = -1; what <= 2; what++) {
                int w = what;
                Check.outside("registerOf(" + r + ", " + w + ")", () -> x.registerOf(r, w));
            }
        }
        Check.sentence("registerOf: IllegalArgumentException for another what");
        for (int what : new int[] {-1, 2, 8, LEAST, MOST}) {
            Check.illegal("registerOf(0, " + what + ")", () -> x.registerOf(0, what));
            Check.illegal("registerOf(8, " + what + ")", () -> x.registerOf(8, what));
        }
    }

    private static void inputs() {
        Check.sentence("input: how many wait. UnsupportedOperationException if there are 16.");
        WardEngine x = Check.ready("in:tag=i;", "in a 1;in a 1;");
        for (int k = 1; k <= 16; k++) {
            Check.is("input " + k, x.input(100 + k, -k), k);
        }
        Check.full("the 17th", () -> x.input(1, 1));
        Check.full("again", () -> x.input(LEAST, MOST));
        Check.is("sixteen wait", x.state(5), 16);
        Check.is("one goes", x.run(1), 1);
        Check.row("the first one", Check.register(x, 1), 101, -1);
        Check.is("fifteen wait", x.state(5), 15);
        Check.is("room for one", x.input(7, 7), 16);
        Check.full("and no more", () -> x.input(1, 1));
        x.begin(0);
        Check.is("none waits", x.state(5), 0);
        Check.is("the first again", x.input(LEAST, MOST), 1);
    }

    private static void inputsInOrder() {
        Check.sentence("in: a becomes the first input, which goes");
        WardEngine x = Check.ready("in,jump:tag=i;", "in a 1;jump;");
        for (int k = 0; k < 16; k++) {
            x.input(LEAST + k, MOST - k);
        }
        for (int k = 0; k < 16; k++) {
            Check.is("run", x.run(2), 2);
            Check.row("input " + k, Check.register(x, 1), LEAST + k, MOST - k);
            Check.is("left", x.state(5), 15 - k);
        }
        Check.is("no more", x.run(2), 0);
        Check.is("it waits", x.state(0), 5);
        Check.row("nothing is set", Check.register(x, 1), LEAST + 15, MOST - 15);
    }

    private static void outputs() {
        Check.sentence("OUTPUTS, of which the first 40 are kept .. output: IndexOutOfBoundsException if it isn't kept");
        WardEngine x = Check.ready("out,add,jump:", "out a 1;add a 1 b 1 c 2;jump;register 2 1;");
        for (int k : new int[] {-1, 0, 1, LEAST, MOST}) {
            Check.outside("output(" + k + ") of none", () -> x.output(k));
        }
        for (int count = 1; count <= 42; count++) {
            x.run(3);
            int kept = Math.min(count, 40);
            Check.is("how many there were", x.state(1), count);
            Check.is("the last that is kept", x.output(kept - 1), kept - 1);
            Check.is("the first", x.output(0), 0);
            Check.outside("output(" + kept + ") of " + count, () -> x.output(kept));
        }
        for (int k : new int[] {-1, 41, 42, LEAST, MOST}) {
            Check.outside("output(" + k + ")", () -> x.output(k));
        }
        x.begin(0);
        Check.outside("behind begin", () -> x.output(0));
    }

    private static void kindsWithoutARule() {
        Check.sentence("no rule is of the kinds 22 .. 31 .. WRONG (2), if p is no place of code, or there is no rule of its kind");
        for (int kind = 22; kind < 32; kind++) {
            WardEngine x = Check.ruled(ALL);
            x.code(0, Check.code(kind, 1, 2, 3, 4), 0);
            x.register(8, 0, 7);
            Check.is("run", x.run(3), 0);
            Check.row("PC stays", Check.register(x, 8), 0, 7);
            Check.row("journal", Check.entry(x, 0), 0, kind, 0, 0, 0, 2);
            Check.row("wrong, and nothing asked", new int[] {x.state(0), x.state(2), x.state(3), x.state(8)}, 2, 0, 0, 0);
        }
        for (int kind = 0; kind < 22; kind++) {
            WardEngine x = Check.ruled(Model.KINDS.get((kind + 1) % 22) + ":");
            x.code(0, kind, 0);
            Check.is("run", x.run(3), 0);
            Check.row("journal", Check.entry(x, 0), 0, kind, 0, 0, 0, 2);
            Check.row("counts", Check.counts(x, kind), 0, 0, 0, 0);
            Check.is("wrong", x.state(0), 2);
        }
    }

    private static void eachDoesSoMuch() {
        Check.sentence("With p for the PC, each does so much");
        for (int kind = 0; kind < 22; kind++) {
            WardEngine x = Check.ready(ALL + "tag=9;next=8;owner=7;", "at 5;mark;register 1 3 tag 30;register 2 2 tag 20;register 3 1 tag 10;register 8 5 tag 40;"
                    + "word 2 50 held 51 owner 7;word 0 52 held 53;word 95 54 held 55 owner 56;input 60 tag 61;input 62;");
            x.code(5, Check.code(kind, 1, 2, 3, 0), 70);
            x.twin();
            Check.is("run", x.run(1), 1);
            boolean sets = kind >= 1 && kind <= 11 || kind == 16 || kind == 18 || kind == 19 || kind == 21;
            boolean toWord = kind == 12 || kind == 20;
            Check.row("code, words, registers, outputs that change by kind " + kind,
                    new int[] {x.unlike(0), x.unlike(1), x.unlike(2), x.unlike(3)}, -1, toWord ? 2 : kind == 19 ? 0 : -1, sets ? 1 : 8, kind == 17 ? 0 : -1);
            Check.row("outputs, inputs, makes by kind " + kind, new int[] {x.state(1), x.state(5), x.state(6)},
                    kind == 17 ? 1 : 0, kind == 18 ? 1 : 2, kind == 19 ? 1 : 0);
            Check.row("b and c by kind " + kind, new int[] {x.registerOf(2, 0), x.registerOf(2, 1), x.registerOf(3, 0), x.registerOf(3, 1)}, 2, 20, 1, 10);
            Check.row("word 95", Check.word(x, 95), 54, 55, 56);
            Check.row("word 3", Check.word(x, 3), 0, 0, 0);
            int[] due = {3, 0, 2, 3, 1, 2, 0, 3, 3, 0, 0, 50, 3, 3, 3, 3, 6, 3, 60, 0, 3, 3};
            Check.row("a by kind " + kind, Check.register(x, 1), due[kind], sets ? 9 : 30);
            int[] to = {5, 6, 6, 6, 6, 6, 6, 6, 6, 6, 6, 6, 6, 0, 0, 2, 0, 6, 6, 6, 6, 6};
            Check.row("PC by kind " + kind, Check.register(x, 8), to[kind], 8);
        }
    }

    private static void oneRegister() {
        Check.sentence("(registers; where what is done is told, a b c stand for their ints)");
        int[] due = {3, 4, 3, 6, 0, 9, 3, 3, 0, 0, 1, 77, 3, 3, 3, 3, 1, 3, 60, 0, 3, 3};
        for (int kind = 0; kind < 22; kind++) {
            WardEngine x = Check.ready(ALL + "owner=5;", "register 7 3;word 7 77;input 60;word 3 78;");
            x.code(0, Check.code(kind, 7, 7, 7, 4), 0);
            Check.is("run", x.run(1), 1);
            Check.is("a, b and c are one, kind " + kind, x.registerOf(7, 0), due[kind]);
            int[] to = {0, 1, 1, 1, 1, 1, 1, 1, 1, 1, 1, 1, 1, 4, 4, 3, 4, 1, 1, 1, 1, 1};
            Check.is("PC, kind " + kind, x.registerOf(8, 0), to[kind]);
            Check.is("the word, kind " + kind, x.wordOf(7, 0), kind == 12 ? 3 : 77);
            Check.is("made, kind " + kind, x.wordOf(2, 2), kind == 19 ? 5 : 0);
        }
    }

    private static void placeBehind() {
        Check.sentence("PC becomes p + 1, if nothing else is said .. WRONG (2), if p is no place of code");
        WardEngine x = Check.ready(ALL, "at 62;mark;mark;register 8 62;");
        Check.is("the last two places", x.run(9), 2);
        Check.is("PC", x.registerOf(8, 0), 64);
        Check.is("wrong", x.state(0), 2);
        Check.row("journal", Check.entry(x, 0), 64, WardEngine.NONE, 0, 0, 0, 2);
        for (int p : new int[] {-1, 64, LEAST, MOST}) {
            WardEngine y = Check.ruled(ALL);
            y.register(8, p, 3);
            Check.is("run at " + p, y.run(1), 0);
            Check.row("PC stays", Check.register(y, 8), p, 3);
            Check.row("journal", Check.entry(y, 0), p, WardEngine.NONE, 0, 0, 0, 2);
            Check.row("nothing is asked", new int[] {y.state(0), y.state(2), y.state(3), y.state(4), y.state(8)}, 2, 0, 0, 0, 0);
        }
        for (int p : new int[] {0, 63}) {
            WardEngine y = Check.ruled("halt:");
            y.register(8, p, 0);
            Check.is("run at " + p, y.run(1), 1);
            Check.is("halted", y.state(0), 1);
        }
    }

    /** What register 1 becomes by a kind of b and c. */
    private static void gives(int kind, int b, int c, int due) {
        WardEngine x = Check.ruled(ALL + "tag=3;");
        x.register(2, b, 0);
        x.register(3, c, 0);
        x.code(0, Check.code(kind, 1, 2, 3, 0), 0);
        Check.is("run", x.run(1), 1);
        Check.row("kind " + kind + " of " + b + ", " + c, Check.register(x, 1), due, 3);
    }

    private static void intsWrap() {
        Check.sentence("Ints wrap.");
        gives(3, MOST, 1, LEAST);
        gives(3, LEAST, -1, MOST);
        gives(3, LEAST, LEAST, 0);
        gives(4, LEAST, 1, MOST);
        gives(4, MOST, -1, LEAST);
        gives(4, 0, LEAST, LEAST);
        gives(5, MOST, MOST, 1);
        gives(5, LEAST, -1, LEAST);
        gives(5, 65536, 65536, 0);
        gives(5, 65536, 32768, LEAST);
        gives(6, LEAST, -1, LEAST);
        gives(7, LEAST, MOST, -1);
        gives(8, -1, MOST, LEAST);
        gives(2, LEAST, 0, LEAST);
    }

    private static void belowAndLike() {
        Check.sentence("9 below, 10 like: a becomes 1 if b is below c, like c, otherwise 0");
        int[] some = {LEAST, -1, 0, 1, MOST};
        for (int b : some) {
            for (int c : some) {
                gives(9, b, c, b < c ? 1 : 0);
                gives(10, b, c, b == c ? 1 : 0);
            }
        }
    }

    private static void halt() {
        Check.sentence("0 halt: the machine has halted, PC stays .. the PC's becomes its NEXT (of halt, too)");
        WardEngine x = Check.ready("halt:tag=4;next=pc+1;owner=5;", "at 63;halt a 1 tag 9;register 8 63 tag 6;register 1 2 tag 3;");
        Check.is("halt counts", x.run(2000), 1);
        Check.row("PC and its NEXT", Check.register(x, 8), 63, 7);
        Check.row("no register is set", Check.register(x, 1), 2, 3);
        Check.row("journal", Check.entry(x, 0), 63, 0, 2, 4, 7, 1);
        Check.row("state, done", new int[] {x.state(0), x.state(2)}, 1, 1);
        Check.badState("it has stopped", () -> x.run(0));
    }

    private static void goes(int kind, int a, int b, int n, int due) {
        WardEngine x = Check.ruled(ALL + "next=8;");
        x.register(1, a, 0);
        x.register(2, b, 0);
        x.register(8, 63, 0);
        x.code(63, Check.code(kind, 1, 2, 0, n), 0);
        Check.is("run", x.run(1), 1);
        Check.row("PC behind kind " + kind, Check.register(x, 8), due, 8);
    }

    private static void jumps() {
        Check.sentence("13 jump: PC becomes n. 14 branch: PC becomes n if a isn't 0. 15 go: PC becomes b.");
        for (int n : new int[] {-32768, -1, 0, 62, 63, 64, 32767}) {
            goes(13, 0, 0, n, n);
            goes(14, 0, 0, n, 64);
            for (int a : new int[] {LEAST, -1, 1, MOST}) {
                goes(14, a, 0, n, n);
            }
            goes(16, 0, 0, n, n);
        }
        for (int b : new int[] {LEAST, -1, 0, 63, 64, MOST}) {
            goes(15, 0, b, 5, b);
        }
    }

    private static void link() {
        Check.sentence("16 link: a becomes p + 1, PC n");
        WardEngine x = Check.ready("link:tag=5;", "link a 1 n 63;at 63;link a 2 n 64;");
        Check.is("run", x.run(2), 2);
        Check.row("from place 0", Check.register(x, 1), 1, 5);
        Check.row("from the last place", Check.register(x, 2), 64, 5);
        Check.is("PC", x.registerOf(8, 0), 64);
    }

    private static void whereNothingIsSet() {
        Check.sentence("Where a register or word is set its (held) tag becomes the rule's TAG");
        for (int kind : new int[] {0, 12, 13, 14, 15, 17, 20}) {
            WardEngine x = Check.ruled(ALL + "tag=9;owner=8;");
            x.register(1, 2, 3);
            x.register(2, 4, 5);
            x.code(0, Check.code(kind, 1, 2, 1, 0), 0);
            Check.is("run", x.run(1), 1);
            Check.row("a of kind " + kind, Check.register(x, 1), 2, 3);
            Check.row("b of kind " + kind, Check.register(x, 2), 4, 5);
            Check.row("word of kind " + kind, Check.word(x, 4), kind == 12 ? 2 : 0, kind == 12 ? 9 : 0, kind == 12 ? 8 : 0);
        }
        WardEngine load = Check.ready("load:tag=9;owner=8;", "load a 1 b 2;register 2 4;word 4 5 held 6 owner 7;");
        load.run(1);
        Check.row("load sets the register", Check.register(load, 1), 5, 9);
        Check.row("and not the word", Check.word(load, 4), 5, 6, 7);
    }

    private static void addressesOfWords() {
        Check.sentence("WRONG, if it would load or store a word that isn't there");
        int[] b = {0, 0, 95, 96, 0, -1, -1, 32863, MOST, MOST, LEAST, LEAST, -32767};
        int[] n = {-1, 95, 1, -1, 96, 0, 1, -32768, 1, 32767, -1, 0, 32767};
        int[] due = {-1, 95, -1, 95, -1, -1, 0, 95, -1, -1, -1, -1, 0};
        for (int k = 0; k < b.length; k++) {
            WardEngine x = Check.ruled("load:tag=1;store:tag=1;owner=2;");
            x.word(0, 70, 71, 72);
            x.word(95, 80, 81, 82);
            x.register(1, 5, 6);
            x.register(2, b[k], 0);
            x.code(0, Check.code(11, 1, 2, 0, n[k]), 0);
            x.code(1, Check.code(12, 1, 2, 0, n[k]), 0);
            String what = b[k] + " + " + n[k];
            Check.is("load at " + what, x.run(1), due[k] == -1 ? 0 : 1);
            Check.is("state of a load at " + what, x.state(0), due[k] == -1 ? 2 : 0);
            Check.is("loaded from " + what, x.registerOf(1, 0), due[k] == -1 ? 5 : due[k] == 0 ? 70 : 80);
            WardEngine y = Check.ruled("load:tag=1;store:tag=1;owner=2;");
            y.register(1, 5, 6);
            y.register(2, b[k], 0);
            y.code(0, Check.code(12, 1, 2, 0, n[k]), 0);
            Check.is("store at " + what, y.run(1), due[k] == -1 ? 0 : 1);
            Check.row("word 0", Check.word(y, 0), due[k] == 0 ? new int[] {5, 1, 2} : new int[3]);
            Check.row("word 95", Check.word(y, 95), due[k] == 95 ? new int[] {5, 1, 2} : new int[3]);
            Check.is("PC", y.registerOf(8, 0), due[k] == -1 ? 0 : 1);
        }
    }

    private static void storesToAnOwnWord() {
        Check.sentence("a word's owner that is stored to its OWNER");
        WardEngine x = Check.ready("store:owner=o+1;", "store a 1 n 95;store a 1 n 95;word 95 1 held 2 owner 9;");
        x.word(95, 1, 2, MOST);
        Check.is("run", x.run(2), 2);
        Check.row("the word", Check.word(x, 95), 0, 0, LEAST + 1);
    }

    private static void makeSizes() {
        Check.sentence("make, if b is not 1 .. 16, or there are not so many");
        for (int many : new int[] {LEAST, -1, 0, 17, 96, MOST}) {
            WardEngine x = Check.ready("make:tag=1;owner=2;", "make a 1 b 2;register 1 5 tag 6;");
            x.register(2, many, 0);
            Check.is("make of " + many, x.run(1), 0);
            Check.row("state, makes, PC", new int[] {x.state(0), x.state(6), x.registerOf(8, 0)}, 4, 0, 0);
            Check.row("a stays", Check.register(x, 1), 5, 6);
            Check.row("no word is made", Check.word(x, 0), 0, 0, 0);
            Check.row("counts", Check.counts(x, 19), 0, 1, 0, 1);
            Check.row("journal", Check.entry(x, 0), 0, 19, 2, 0, 0, 4);
        }
        for (int many : new int[] {1, 2, 15, 16}) {
            WardEngine x = Check.ready("make:tag=1;owner=2;", "make a 1 b 2;word 0 3 held 4;");
            x.register(2, many, 0);
            x.word(many - 1, 3, 4, 0);
            x.word(many, 3, 4, 0);
            Check.is("make of " + many, x.run(1), 1);
            Check.row("a", Check.register(x, 1), 0, 1);
            Check.row("the first", Check.word(x, 0), 0, 0, 2);
            Check.row("the last", Check.word(x, many - 1), 0, 0, 2);
            Check.row("the one behind", Check.word(x, many), 3, 4, 0);
        }
    }

    private static void makeFindsTheFirst() {
        Check.sentence("19 make: the first b words one behind the other whose owner is 0");
        // Free are 1, 3, 4, and all from 6 on; an owner below 0 is one, too.
        for (int many = 1; many <= 3; many++) {
            WardEngine x = Check.ready("make:owner=9;", "make a 1 b 2;word 0 0 owner 1;word 2 0 owner -1;word 5 0 owner 1;");
            x.register(2, many, 0);
            x.word(7, 0, 5, 0);
            Check.is("run", x.run(1), 1);
            Check.is("make of " + many, x.registerOf(1, 0), many == 1 ? 1 : many == 2 ? 3 : 6);
            Check.is("a free one that wasn't taken", x.wordOf(many == 1 ? 3 : 1, 2), 0);
            Check.is("one that is another's", x.wordOf(2, 2), -1);
        }
    }

    private static void makeAtTheEnd() {
        Check.sentence("it has no ROOM (4): make, if .. there are not so many");
        for (int free : new int[] {1, 5, 15, 16}) {
            for (int many : new int[] {free, free + 1}) {
                WardEngine x = Check.ruled("make:owner=9;");
                for (int k = 0; k < 96 - free; k++) {
                    x.word(k, 0, 0, 1);
                }
                x.register(2, many, 0);
                x.code(0, Check.code(19, 1, 2, 0, 0), 0);
                Check.is(many + " of " + free, x.run(1), many == free ? 1 : 0);
                Check.is("state", x.state(0), many == free ? 0 : 4);
                Check.is("the last word", x.wordOf(95, 2), many == free ? 9 : 0);
                Check.is("a", x.registerOf(1, 0), many == free ? 96 - free : 0);
            }
        }
        WardEngine apart = Check.ruled("make:owner=9;");
        for (int k = 0; k < 96; k += 2) {
            apart.word(k, 0, 0, 1);
        }
        apart.register(2, 2, 0);
        apart.code(0, Check.code(19, 1, 2, 0, 0), 0);
        Check.is("48 are free, but no two together", apart.run(1), 0);
        Check.is("no room", apart.state(0), 4);
        WardEngine none = Check.ruled("make:owner=9;");
        for (int k = 0; k < 96; k++) {
            none.word(k, 0, 0, 1);
        }
        none.register(2, 1, 0);
        none.code(0, Check.code(19, 1, 2, 0, 0), 0);
        Check.is("none is free", none.run(1), 0);
    }

    private static void makeWithoutAnOwner() {
        Check.sentence("get the rule's OWNER as owner (0, too: they are free then), are 0, and held tag 0; a becomes the first one's place");
        WardEngine x = Check.ready("make:owner=0;tag=7;", "make a 1 b 1;make a 3 b 2;register 1 2;register 2 2;word 0 5 held 6;word 1 5 held 6;word 2 5 held 6;");
        Check.is("run", x.run(2), 2);
        Check.row("a, of which the size came", Check.register(x, 1), 0, 7);
        Check.row("the same place again", Check.register(x, 3), 0, 7);
        Check.row("word 0", Check.word(x, 0), 0, 0, 0);
        Check.row("word 1", Check.word(x, 1), 0, 0, 0);
        Check.row("word 2", Check.word(x, 2), 5, 6, 0);
        Check.is("both count", x.state(6), 2);
    }

    private static void drop() {
        Check.sentence("20 drop: all words whose owner is the rule's OWNER get owner 0 (nothing else of them changes)");
        WardEngine x = Check.ready("drop:tag=1;owner=va;", "drop a 1;drop a 1;drop a 2;drop a 3;register 1 5 tag 6;register 2 0;register 3 -8;"
                + "word 0 1 held 2 owner 5;word 95 3 held 4 owner 5;word 50 7 held 5 owner 6;word 51 1 owner -8;");
        Check.is("run", x.run(2), 2);
        Check.row("word 0", Check.word(x, 0), 1, 2, 0);
        Check.row("word 95", Check.word(x, 95), 3, 4, 0);
        Check.row("another's", Check.word(x, 50), 7, 5, 6);
        Check.row("a stays", Check.register(x, 1), 5, 6);
        Check.is("owner 0 and one below 0", x.run(2), 2);
        Check.row("another's", Check.word(x, 50), 7, 5, 6);
        Check.row("word 51", Check.word(x, 51), 1, 0, 0);
    }

    private static void begin() {
        Check.sentence("begin: All of the machine at hand is as at first .. clear is told");
        for (int clear : FAR) {
            WardEngine x = Check.ready("mark:tag=clear;next=before;owner=fresh;make:owner=3;in:out:",
                    "make a 1 b 2;out;in;in;register 2 1;input 3 tag 4;word 9 9 held 9 owner 9;");
            x.run(9);
            Check.is("it waits", x.state(0), 5);
            x.begin(clear);
            for (int what = 0; what < 10; what++) {
                Check.is("state(" + what + ")", x.state(what), 0);
            }
            Check.row("words", new int[] {x.wordOf(0, 2), x.wordOf(9, 0), x.wordOf(9, 1), x.wordOf(9, 2)}, 0, 0, 0, 0);
            Check.row("code", new int[] {x.codeOf(0, 0), x.codeOf(3, 0)}, 0, 0);
            Check.row("counts", Check.counts(x, 19), 0, 0, 0, 0);
            Check.row("PC", Check.register(x, 8), 0, 0);
            x.code(0, 21, 5);
            Check.is("it goes", x.run(1), 1);
            Check.row("clear, before, fresh", new int[] {x.cacheOf(0, 23), x.cacheOf(0, 22), x.cacheOf(0, 24)}, clear, -1, 2);
        }
        beginOfEachState();
    }

    private static void beginOfEachState() {
        Check.sentence("begin: (tags, inputs, outputs, what state() tells, the cache, no pairs)");
        String[] images = {"mark;jump;", "halt;", "drop;", "out;", "make;", "in;"};
        for (int state = 0; state < images.length; state++) {
            WardEngine x = Check.ready("mark:jump:halt:out:need 0;make:in:", images[state]);
            x.run(2);
            Check.is("state", x.state(0), state);
            x.begin(0);
            Check.is("behind begin", x.state(0), 0);
            Check.is("journal", x.state(9), 0);
            Check.is("blame", x.blame(), WardEngine.NONE);
            Check.is("it goes", x.run(1), 1);
        }
    }
}
