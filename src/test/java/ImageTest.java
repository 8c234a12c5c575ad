/** Promises 5 to 7: image, listing, codeOf, with section 4. */
public final class ImageTest {
    public static void main(String[] args) {
        goodTexts();
        asBehindBegin();
        faults();
        numberFaults();
        limits();
        listing();
        codeOf();
        Check.end("ImageTest");
    }

    /** The fault is where the @ stands, which is no part of the text. */
    private static void fault(String marked) {
        int place = marked.indexOf('@');
        String text = marked.substring(0, place) + marked.substring(place + 1);
        WardEngine x = new WardEngine();
        x.register(1, 5, 6);
        x.code(0, 7, 8);
        Check.is("image " + marked, Check.image(x, text), place);
        Check.is("all stays", x.registerOf(1, 0) * 1000 + x.registerOf(1, 1) * 100 + x.codeOf(0, 0) * 10 + x.codeOf(0, 1), 5678);
    }

    private static void goodTexts() {
        WardEngine x = new WardEngine();
        Check.good("empty", () -> Check.image(x, ""));
        Check.good("only clear", () -> Check.image(x, " # x\nclear -7;"));
        Check.good("all lines", () -> Check.image(x, "clear 3;add c 3 tag -9999999 n -32768 b 2 a 1;\nat 63;mark a 7 n 32767;"
                + "at 2;halt;go b 1;word 95 -5;word 0 1 held -2 owner 3;word 1 4 owner 5;word 2 6 held 7;"
                + "register 0 - 1;register 8 -3 tag 4;input 1;input - 2 tag -3;"));
        Check.is("add", x.codeOf(0, 0), Check.code(3, 1, 2, 3, -32768));
        Check.is("add's tag", x.codeOf(0, 1), -9999999);
        Check.is("mark", x.codeOf(63, 0), Check.code(21, 7, 0, 0, 32767));
        Check.is("halt", x.codeOf(2, 0), 0);
        Check.is("go", x.codeOf(3, 0), Check.code(15, 0, 1, 0, 0));
        Check.is("word 95", x.wordOf(95, 0), -5);
        Check.is("word 0", x.wordOf(0, 0) * 10000 + x.wordOf(0, 1) * 100 + x.wordOf(0, 2), 10000 - 200 + 3);
        Check.is("word 1", x.wordOf(1, 0) * 100 + x.wordOf(1, 1) * 10 + x.wordOf(1, 2), 405);
        Check.is("word 2", x.wordOf(2, 0) * 100 + x.wordOf(2, 1) * 10 + x.wordOf(2, 2), 670);
        Check.is("register 0", x.registerOf(0, 0), -1);
        Check.is("register 0's tag", x.registerOf(0, 1), 0);
        Check.is("PC", x.registerOf(8, 0), -3);
        Check.is("PC's tag", x.registerOf(8, 1), 4);
        Check.is("inputs", x.state(5), 2);
        Check.good("a later line counts", () -> Check.image(x, "add a 1 tag 2;word 3 4 held 5;at 0;mark;word 3 6;"
                + "register 1 1 tag 1;register 1 2;at 0;at 5;halt tag 3;halt tag 4;"));
        Check.is("code", x.codeOf(0, 0), 21);
        Check.is("code's tag", x.codeOf(0, 1), 0);
        Check.is("word", x.wordOf(3, 0) * 10 + x.wordOf(3, 1), 60);
        Check.is("register", x.registerOf(1, 0) * 10 + x.registerOf(1, 1), 20);
        Check.is("at", x.codeOf(5, 1) * 10 + x.codeOf(6, 1), 34);
    }

    private static void asBehindBegin() {
        WardEngine x = new WardEngine();
        Check.policy(x, "constant:tag=pair(n,1);out,in,halt:tag=clear;");
        Check.image(x, "clear 5;constant n 1;in a 2;out;input 4 tag 3;halt;");
        x.twin();
        Check.is("run", x.run(9), 4);
        Check.is("clear", x.registerOf(2, 1), 5);
        Check.is("the input", x.registerOf(2, 0), 4);
        Check.text(x, "in a 3;input 9;");
        Check.is("image", x.image(), WardEngine.NONE);
        Check.is("the text stays", x.put(0), 15);
        for (int what = 0; what < 10; what++) {
            Check.is("state(" + what + ")", x.state(what), what == 5 ? 1 : 0);
        }
        Check.is("count", x.count(0, 0), 0);
        Check.is("old code", x.codeOf(1, 0), 0);
        Check.is("old register", x.registerOf(2, 0), 0);
        Check.outside("old output", () -> x.output(0));
        Check.outside("old pair", () -> x.pairOf(0, 0));
        x.run(1);
        Check.is("clear without a line", x.registerOf(3, 1), 0);
        Check.is("the policy stays", x.names(18), 1 << 13);
        x.swap();
        Check.is("the other machine stays", x.state(5), 1);
        Check.is("the other machine stays", x.codeOf(0, 0), Check.code(1, 0, 0, 0, 1));
    }

    private static void faults() {
        fault("@;");
        fault("halt;@;");
        fault("halt@");
        fault("halt a@");
        fault("halt a @;");
        fault("halt @5;");
        fault("halt a 1@,b 2;");
        fault("add a 1 @a 2;");
        fault("add tag 1 n 2 b 3 c 4 @tag 5;");
        fault("add @held 1;");
        fault("add @clear 1;");
        fault("add @halt;");
        fault("halt;@clear 1;");
        fault("clear 1;@clear 1;");
        fault("clear @;");
        fault("clear 1@");
        fault("clear 1 @2;");
        fault("@none 25;");
        fault("@a 1;");
        fault("@tag 1;");
        fault("@held 1;");
        fault("@need 1;");
        fault("@5;");
        fault("@-;");
        fault("@wordy 1 1;");
        fault("@>");
        fault("at@;");
        fault("at 1 @2;");
        fault("word @;");
        fault("word 1@;");
        fault("word 1 2 owner 3 @held 4;");
        fault("word 1 2 held 3 @held 4;");
        fault("word 1 2 owner 3 @owner 4;");
        fault("word 1 2 @tag 4;");
        fault("word 1 2 held@;");
        fault("register 1@;");
        fault("register 1 2 tag@;");
        fault("register 1 2 tag 3 @tag 3;");
        fault("register 1 2 @held 3;");
        fault("input@;");
        fault("input 1 tag@;");
        fault("input 1 @2;");
        fault("input 1 # ;\n  @");
    }

    private static void numberFaults() {
        fault("at @64;");
        fault("at @-1;");
        fault("word @96 1;");
        fault("word @-0 1;");
        fault("register @9 1;");
        fault("register @-1 1;");
        fault("add a @8;");
        fault("add b @-1;");
        fault("add c @9999999;");
        fault("add n @32768;");
        fault("add n @-32769;");
        fault("add n @- 32769;");
        fault("add n -@- 3;");
        fault("add n -@;");
        fault("add n -@a;");
        fault("add n @12345678;");
        fault("add n -@12345678;");
        fault("add tag -@00000000;");
        fault("word 1 @10000000;");
        fault("word 1 -@10000000;");
        fault("clear @10000000;");
        fault("at @00000001;");
        fault("input @99999999;");
    }

    private static void limits() {
        StringBuilder inputs = new StringBuilder();
        for (int k = 0; k < 16; k++) {
            inputs.append("input ").append(k).append(';');
        }
        WardEngine x = new WardEngine();
        Check.good("sixteen inputs", () -> Check.image(x, inputs.toString()));
        Check.is("sixteen inputs", x.state(5), 16);
        fault(inputs + "@input;");
        Check.good("the last place", () -> Check.image(x, "at 62;halt;halt;"));
        fault("at 62;halt;halt;@halt;");
        fault("at 63;halt;@mark a");
        Check.good("at behind the last place", () -> Check.image(x, "at 63;halt;at 63;mark;at 0;go;"));
        Check.is("go", x.codeOf(0, 0), 15);
        Check.is("mark", x.codeOf(63, 0), 21);
        StringBuilder all = new StringBuilder();
        for (int k = 0; k < 64; k++) {
            all.append("halt;");
        }
        Check.good("all places", () -> Check.image(x, all.toString()));
        fault(all + "@halt;");
    }

    private static void listing() {
        WardEngine x = new WardEngine();
        x.code(40, Check.code(4, 1, 2, 3, -32768), Integer.MIN_VALUE);
        Check.same("longest", Check.listing(x, 40), "subtract a 1 b 2 c 3 n -32768 tag -2147483648");
        x.code(41, Check.code(3, 0, 7, 0, 0), 5);
        Check.same("some", Check.listing(x, 41), "add b 7 tag 5");
        x.code(42, Check.code(31, 0, 0, 6, 12) | 3 << 14, 0);
        Check.same("bits 14 and 15", Check.listing(x, 42), "none 31 c 6 n 12");
        x.code(63, -1, -1);
        Check.same("all bits", Check.listing(x, 63), "none 31 a 7 b 7 c 7 n -1 tag -1");
        Check.is("far behind", x.listing(63, Integer.MAX_VALUE), WardEngine.NONE);
        Check.outside("listing(64, 0)", () -> x.listing(64, 0));
        Check.outside("listing(-1, 0)", () -> x.listing(-1, 0));
        Check.outside("listing(0, -1)", () -> x.listing(0, -1));
    }

    private static void codeOf() {
        WardEngine x = new WardEngine();
        x.code(63, 5, 6);
        Check.is("code", x.codeOf(63, 0), 5);
        Check.is("tag", x.codeOf(63, 1), 6);
        Check.illegal("codeOf(0, 2)", () -> x.codeOf(0, 2));
        Check.illegal("codeOf(0, -1)", () -> x.codeOf(0, -1));
        Check.outside("codeOf(64, 0)", () -> x.codeOf(64, 0));
        Check.outside("codeOf(-1, 7)", () -> x.codeOf(-1, 7));
    }
}
