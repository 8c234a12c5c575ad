import java.util.Arrays;

/** Promises 27 to 29: twin, swap, unlike; section 7. */
public final class TwinTest {
    private static final String POLICY = "constant:tag=n;out:in:make:owner=fresh;add:tag=pair(b,n);mark:tag=before;halt:need 0;";

    public static void main(String[] args) {
        twin();
        whatDoesNotShow();
        apart();
        swap();
        unlikeCode();
        unlikeWords();
        unlikeRegisters();
        unlikeOutputs();
        Check.illegal("unlike(4)", () -> new WardEngine().unlike(4));
        Check.illegal("unlike(-1)", () -> new WardEngine().unlike(-1));
        Check.end("TwinTest");
    }

    private static WardEngine busy() {
        WardEngine x = new WardEngine();
        Check.good("policy", () -> Check.policy(x, POLICY));
        Check.good("image", () -> Check.image(x, "clear 4;constant a 1 n 2 tag 6;out a 1;in a 2;make a 3 b 1;add a 4 n 3;mark a 5;"
                + "halt;input 7 tag 8;input 9;word 50 1 held 2 owner 3;register 7 5 tag 6;"));
        return x;
    }

    private static final int PARTS = 4;

    /** All that can be asked of the machine at hand, in parts, as an object has no more than 512 calls. */
    private static String part(WardEngine x, int part) {
        StringBuilder all = new StringBuilder();
        for (int what = 0; what < 10; what++) {
            all.append(x.state(what)).append(' ');
        }
        for (int k = 0; k < 96; k++) {
            if (part == 0) {
                all.append(x.wordOf(k, 0)).append(x.wordOf(k, 1)).append(x.wordOf(k, 2));
            } else if (part == 1) {
                all.append(k < 64 ? x.codeOf(k, 0) + " " + x.codeOf(k, 1) : "");
                all.append(k < 9 ? x.registerOf(k, 0) + " " + x.registerOf(k, 1) : "");
            } else if (part == 2 && k < x.state(9)) {
                all.append(Arrays.toString(Check.entry(x, k)));
            } else if (part == 3) {
                all.append(k < 22 ? Arrays.toString(Check.counts(x, k)) : "");
            }
        }
        return all.append(kept(x, part)).append(x.blame()).toString();
    }

    private static String kept(WardEngine x, int part) {
        StringBuilder all = new StringBuilder();
        for (int k = 0; k < 8 && part == 2 && k < x.state(8); k++) {
            for (int what = 0; what < 25; what += what == 4 ? 6 : 1) {
                all.append(x.cacheOf(k, what)).append(' ');
            }
        }
        for (int k = 0; k < 60 && part == 3 && k < x.state(7); k++) {
            all.append(x.pairOf(k, 0)).append(' ').append(x.pairOf(k, 1)).append(' ');
        }
        for (int k = 0; k < 40 && part == 3 && k < x.state(1); k++) {
            all.append(x.output(k)).append(' ');
        }
        return all.toString();
    }

    /** A busy one behind so many instructions, and its twin. */
    private static WardEngine withTwin(int done) {
        WardEngine x = busy();
        x.run(done);
        x.twin();
        return x;
    }

    private static void twin() {
        Check.is("unlike at first", busy().unlike(0), 0);
        for (int k = 0; k < 8; k++) {
            for (int part = 0; part < PARTS; part++) {
                WardEngine x = withTwin(k);
                WardEngine y = withTwin(k);
                y.swap();
                Check.same("the twin after " + k, part(y, part), part(x, part));
                for (int what = 0; what < 4; what++) {
                    Check.is("unlike(" + what + ")", y.unlike(what), WardEngine.NONE);
                }
                goOn(k, part);
            }
        }
        WardEngine x = withTwin(7);
        Check.is("it came to the violation", x.state(0), 3);
        Check.is("before", x.registerOf(5, 1), 0);
    }

    /** What does not show by itself (before, clear, inputs) shows by what both do next. */
    private static void goOn(int done, int part) {
        if (done < 7) {
            WardEngine x = withTwin(done);
            x.run(1);
            WardEngine y = withTwin(done);
            y.swap();
            y.run(1);
            Check.same("both go on alike after " + done, part(y, part), part(x, part));
        }
    }

    private static void whatDoesNotShow() {
        WardEngine x = new WardEngine();
        Check.policy(x, "mark:tag=before;next=clear;in:tag=i;");
        x.begin(3);
        x.code(0, Check.code(21, 1, 0, 0, 0), 7);
        x.code(1, Check.code(21, 2, 0, 0, 0), 8);
        x.code(2, Check.code(18, 3, 0, 0, 0), 9);
        x.input(5, 6);
        x.run(1);
        x.twin();
        x.swap();
        x.run(2);
        Check.is("before", x.registerOf(2, 1), 7);
        Check.is("clear", x.registerOf(8, 1), 3);
        Check.is("the input", x.registerOf(3, 0), 5);
        Check.is("the input's tag", x.registerOf(3, 1), 6);
    }

    private static void apart() {
        for (int part = 0; part < PARTS; part++) {
            WardEngine x = busy();
            x.twin();
            x.run(6);
            x.code(0, 0, 0);
            x.word(0, 1, 1, 1);
            x.input(1, 1);
            x.swap();
            Check.same("the twin is another machine", part(x, part), part(busy(), part));
            x.begin(0);
            x.swap();
            Check.is("this one stays", x.state(2), 6);
        }
    }

    private static void swap() {
        WardEngine x = busy();
        x.swap();
        for (int what = 0; what < 10; what++) {
            Check.is("the other one at first", x.state(what), 0);
        }
        x.begin(5);
        x.register(8, 3, 1);
        x.swap();
        Check.is("inputs of the first", x.state(5), 2);
        x.swap();
        Check.is("PC of the second", x.registerOf(8, 0), 3);
        Check.is("the policy is that of both", x.names(1), 1 << 10);
    }

    private static void unlikeCode() {
        WardEngine x = new WardEngine();
        x.code(63, 1, 0);
        Check.is("int", x.unlike(0), 63);
        x.code(40, 0, 1);
        Check.is("tag", x.unlike(0), 40);
        x.code(20, 2, 2);
        Check.is("both", x.unlike(0), 20);
        x.swap();
        Check.is("from the other side", x.unlike(0), 20);
        Check.is("words", x.unlike(1), WardEngine.NONE);
    }

    private static void unlikeWords() {
        WardEngine x = new WardEngine();
        x.word(95, 1, 0, 0);
        Check.is("int", x.unlike(1), 95);
        x.word(60, 0, 1, 0);
        Check.is("held", x.unlike(1), 60);
        x.word(30, 0, 0, 1);
        Check.is("owner", x.unlike(1), 30);
        x.word(0, 1, 1, 1);
        Check.is("all", x.unlike(1), 0);
        Check.is("code", x.unlike(0), WardEngine.NONE);
    }

    private static void unlikeRegisters() {
        WardEngine x = new WardEngine();
        x.register(8, 0, 1);
        Check.is("PC's tag", x.unlike(2), 8);
        x.register(8, 1, 0);
        Check.is("PC", x.unlike(2), 8);
        x.register(5, 0, 1);
        Check.is("tag", x.unlike(2), 5);
        x.register(2, 1, 0);
        Check.is("int", x.unlike(2), 2);
    }

    private static void unlikeOutputs() {
        WardEngine x = new WardEngine();
        Check.policy(x, "out:jump:move:");
        x.code(0, 17, 0);
        x.code(1, 13, 0);
        Check.is("none", x.unlike(3), WardEngine.NONE);
        x.twin();
        x.run(1);
        Check.is("one, a 0, and none", x.unlike(3), 0);
        x.run(7);
        x.twin();
        x.run(4);
        Check.is("six and four", x.unlike(3), 4);
        x.swap();
        Check.is("four and six", x.unlike(3), 4);
        x.register(0, 5, 0);
        x.run(4);
        Check.is("six and six", x.unlike(3), 4);
        x.twin();
        x.run(100);
        x.swap();
        x.run(72);
        Check.is("beyond forty they aren't kept", x.unlike(3), WardEngine.NONE);
        Check.is("though there were so many", x.state(1), 42);
        x.begin(0);
        Check.is("old ones aren't seen", x.unlike(3), 0);
        x.twin();
        Check.is("old ones aren't seen", x.unlike(3), WardEngine.NONE);
        WardEngine y = new WardEngine();
        Check.policy(y, "out:");
        y.register(0, 5, 0);
        y.code(0, 17, 0);
        y.run(1);
        y.begin(0);
        Check.is("one that was put out before begin", y.unlike(3), WardEngine.NONE);
    }
}
