/** The edges of section 7 and of promises 27 to 29: twin, swap, unlike. */
public final class EdgesOfTwinTest {
    private static final int LEAST = Integer.MIN_VALUE;
    private static final int MOST = Integer.MAX_VALUE;

    public static void main(String[] args) {
        otherAtFirst();
        twinHasCode();
        twinHasRegistersAndInputs();
        twinHasOutputs();
        twinHasClearAndBefore();
        twinHasPairs();
        twinHasCache();
        twinHasJournal();
        twinHasCounts();
        twinHasStateAndBlame();
        twinIsAnother();
        twinTwice();
        swap();
        ofTheOneAtHand();
        policyOfBoth();
        beginOfOne();
        unlikeCode();
        unlikeWords();
        unlikeRegisters();
        unlikeOutputs();
        outputsBeyondForty();
        outputsBehindBegin();
        otherWhat();
        Check.end("EdgesOfTwinTest");
    }

    private static void otherAtFirst() {
        Check.sentence("There is another machine, at first as behind begin(0).");
        WardEngine x = Check.ready("mark:tag=clear;next=before;owner=fresh;", "clear 5;mark;word 3 1 held 1 owner 1;register 1 1 tag 1;input 1;");
        x.run(1);
        x.swap();
        for (int what = 0; what < 10; what++) {
            Check.is("state(" + what + ")", x.state(what), 0);
        }
        Check.row("word", Check.word(x, 3), 0, 0, 0);
        Check.row("register", Check.register(x, 1), 0, 0);
        x.code(0, 21, 0);
        x.run(1);
        Check.row("clear, before, fresh", new int[] {x.cacheOf(0, 23), x.cacheOf(0, 22), x.cacheOf(0, 24)}, 0, -1, 2);
    }

    private static void twinHasCode() {
        Check.sentence("A machine has its code, words");
        WardEngine x = new WardEngine();
        for (int k : new int[] {0, 63}) {
            x.code(k, k + 1, k + 2);
        }
        for (int k : new int[] {0, 95}) {
            x.word(k, k + 1, k + 2, k + 3);
        }
        x.twin();
        x.swap();
        for (int k : new int[] {0, 63}) {
            Check.row("code " + k, new int[] {x.codeOf(k, 0), x.codeOf(k, 1)}, k + 1, k + 2);
        }
        for (int k : new int[] {0, 95}) {
            Check.row("word " + k, Check.word(x, k), k + 1, k + 2, k + 3);
        }
    }

    private static void twinHasRegistersAndInputs() {
        Check.sentence("registers, inputs");
        WardEngine x = Check.ready("in,jump:tag=i;", "in a 1;jump;");
        for (int r = 0; r <= 7; r++) {
            x.register(r, r + 1, r + 2);
        }
        x.register(8, 0, 9);
        for (int k = 0; k < 16; k++) {
            x.input(k + 50, k + 70);
        }
        x.run(2);
        x.twin();
        x.swap();
        for (int r = 2; r <= 7; r++) {
            Check.row("register " + r, Check.register(x, r), r + 1, r + 2);
        }
        Check.row("PC", Check.register(x, 8), 0, 9);
        Check.is("inputs", x.state(5), 15);
        for (int k = 1; k < 16; k++) {
            x.run(2);
            Check.row("input " + k, Check.register(x, 1), k + 50, k + 70);
        }
        x.swap();
        Check.is("inputs of the first one", x.state(5), 15);
    }

    private static void twinHasOutputs() {
        Check.sentence("outputs");
        WardEngine x = Check.ready("out,add,jump:", "out a 1;add a 1 b 1 c 2;jump;register 2 1;");
        x.run(3 * 41);
        x.twin();
        x.begin(0);
        x.swap();
        Check.is("outputs", x.state(1), 41);
        for (int k = 0; k < 40; k++) {
            Check.is("output " + k, x.output(k), k);
        }
    }

    private static void twinHasClearAndBefore() {
        Check.sentence("clear, all that state() tells");
        WardEngine x = Check.ready("mark:tag=clear;next=before;make:owner=fresh;",
                "clear 5;make a 1 b 2 tag 6;mark a 3 tag 7;mark a 3 tag 8;register 2 2;");
        x.run(2);
        x.twin();
        x.begin(9);
        x.swap();
        int[] due = {0, 0, 2, 2, 0, 0, 1, 0, 2, 2};
        for (int what = 0; what < 10; what++) {
            Check.is("state(" + what + ")", x.state(what), due[what]);
        }
        x.run(1);
        Check.row("clear, before", new int[] {x.registerOf(3, 1), x.registerOf(8, 1)}, 5, 7);
        x.code(3, Check.code(19, 1, 2, 0, 0), 0);
        x.run(1);
        Check.is("fresh", x.wordOf(2, 2), 3);
    }

    private static void twinHasPairs() {
        Check.sentence("pairs");
        WardEngine x = Check.ready("add:tag=pair(b,n);", "add a 1 n 5;add a 1 b 1 n 6;add a 2 b 1 n 7;add a 3 b 3 n 5;");
        x.run(2);
        x.twin();
        x.begin(0);
        x.swap();
        Check.row("pairs", new int[] {x.state(7), x.pairOf(0, 0), x.pairOf(0, 1), x.pairOf(1, 0), x.pairOf(1, 1)}, 2, 0, 5, 1000000, 6);
        x.run(2);
        Check.row("the next one, and one that is there", new int[] {x.registerOf(2, 1), x.registerOf(3, 1)}, 1000002, 1000000);
        x.swap();
        Check.is("the first one's", x.state(7), 0);
    }

    private static void twinHasCache() {
        Check.sentence("cache");
        WardEngine x = Check.ruled("mark:tag=n+100;next=n+200;owner=n+300;need n<12;");
        for (int k = 0; k < 13; k++) {
            x.code(k, Check.code(21, 1, 0, 0, k), 0);
        }
        x.run(13);
        x.twin();
        x.begin(0);
        x.swap();
        Check.is("kept", x.state(8), 8);
        for (int i = 0; i < 8; i++) {
            int n = i + 5;
            int[] due = i < 7 ? new int[] {21, 0, n + 100, n + 200, n + 300, n} : new int[] {21, 3, 0, 0, 0, 12};
            Check.row("question " + i, new int[] {x.cacheOf(i, 0), x.cacheOf(i, 1), x.cacheOf(i, 2), x.cacheOf(i, 3), x.cacheOf(i, 4),
                x.cacheOf(i, 20)}, due);
        }
        WardEngine y = Check.ready("mark:tag=n+100;", "mark a 1 n 1;mark a 2 n 2;mark a 3 n 1;");
        y.run(2);
        y.twin();
        y.swap();
        y.run(1);
        Check.row("a hit of the twin", new int[] {y.journal(0, 2), y.registerOf(3, 1), y.state(4)}, 3, 101, 1);
        y.swap();
        Check.is("none of the first one", y.state(4), 0);
    }

    private static void twinHasJournal() {
        Check.sentence("journal");
        WardEngine x = Check.ruled("mark:tag=n;");
        for (int k = 0; k < 21; k++) {
            x.code(k, Check.code(21, 1, 0, 0, k + 30), 0);
        }
        x.run(21);
        x.twin();
        x.begin(0);
        x.swap();
        Check.is("sixteen", x.state(9), 16);
        for (int i = 0; i < 16; i++) {
            Check.row("entry " + i, Check.entry(x, i), 20 - i, 21, 2, 50 - i, 0, 0);
        }
    }

    private static void twinHasCounts() {
        Check.sentence("counts");
        WardEngine x = Check.ready("halt:mark:load:", "mark;mark;mark;load n 96;");
        x.run(9);
        x.twin();
        x.begin(0);
        x.swap();
        Check.row("of mark", Check.counts(x, 21), 3, 3, 2, 0);
        Check.row("of load", Check.counts(x, 11), 0, 1, 0, 1);
        Check.row("of halt", Check.counts(x, 0), 0, 0, 0, 0);
        x.swap();
        Check.row("begin of the first one", Check.counts(x, 21), 0, 0, 0, 0);
    }

    private static void twinHasStateAndBlame() {
        Check.sentence("and blame");
        WardEngine x = Check.ready("halt:out:need 0;", "out;");
        x.run(1);
        x.twin();
        x.begin(0);
        Check.is("blame behind begin", x.blame(), WardEngine.NONE);
        x.swap();
        Check.row("state and blame of the twin", new int[] {x.state(0), x.blame()}, 3, "halt:out:".length());
        Check.badState("it has stopped", () -> x.run(1));
        WardEngine y = Check.ready("in:", "in;");
        y.run(1);
        y.twin();
        y.swap();
        Check.row("one that waits", new int[] {y.state(0), y.blame()}, 5, WardEngine.NONE);
        y.input(1, 1);
        Check.is("goes on", y.run(1), 1);
        y.swap();
        Check.row("the first one waits", new int[] {y.state(0), y.state(5), y.state(2)}, 5, 0, 0);
    }

    private static void twinIsAnother() {
        Check.sentence("twin: The other machine becomes as the one at hand.");
        WardEngine x = Check.ready("mark:tag=n;out:make:owner=1;add:tag=pair(n,1);", "mark n 1;out;make a 1 b 2;add a 3 n 4;register 2 1;");
        x.twin();
        x.run(4);
        x.code(9, 1, 1);
        x.word(9, 1, 1, 1);
        x.register(7, 1, 1);
        x.input(1, 1);
        x.swap();
        for (int what = 0; what < 10; what++) {
            Check.is("state(" + what + ")", x.state(what), 0);
        }
        Check.row("code, word, register", new int[] {x.codeOf(9, 0), x.wordOf(9, 0), x.wordOf(0, 2), x.registerOf(7, 0), x.registerOf(8, 0)}, 0, 0, 0, 0, 0);
        Check.is("code that was there", x.codeOf(0, 0), Check.code(21, 0, 0, 0, 1));
        Check.row("counts", Check.counts(x, 21), 0, 0, 0, 0);
    }

    private static void twinTwice() {
        Check.sentence("twin: The other machine becomes as the one at hand.");
        WardEngine x = new WardEngine();
        x.register(1, 1, 1);
        x.twin();
        x.register(1, 2, 2);
        x.twin();
        x.twin();
        x.swap();
        Check.row("the latest", Check.register(x, 1), 2, 2);
        x.register(1, 3, 3);
        x.twin();
        x.swap();
        Check.row("back again", Check.register(x, 1), 3, 3);
        Check.is("alike", x.unlike(2), WardEngine.NONE);
    }

    private static void swap() {
        Check.sentence("swap: The other machine is at hand, and this one the other one.");
        WardEngine x = new WardEngine();
        x.register(1, 1, 10);
        x.swap();
        Check.row("the other one", Check.register(x, 1), 0, 0);
        x.register(1, 2, 20);
        x.swap();
        Check.row("this one", Check.register(x, 1), 1, 10);
        x.swap();
        x.swap();
        x.swap();
        Check.row("the other one", Check.register(x, 1), 2, 20);
    }

    private static void ofTheOneAtHand() {
        Check.sentence("All calls are of the one AT HAND");
        WardEngine x = Check.ready("mark:tag=n;out:need 0;add:tag=pair(1,2);", "mark n 1;add;out;");
        x.swap();
        Check.image(x, "mark n 2;mark n 2;input 1;");
        x.run(2);
        x.swap();
        Check.is("nothing was done here", x.state(2), 0);
        x.run(3);
        Check.row("here", new int[] {x.state(0), x.state(2), x.state(3), x.state(7), x.state(9), x.state(5), x.cacheOf(0, 20)}, 3, 2, 2, 1, 3, 0, 1);
        Check.is("blame here", x.blame() > 0 ? 1 : 0, 1);
        Check.row("counts here", Check.counts(x, 21), 1, 1, 0, 0);
        x.swap();
        Check.row("there", new int[] {x.state(0), x.state(2), x.state(3), x.state(7), x.state(9), x.state(5), x.cacheOf(0, 20)}, 0, 2, 2, 0, 2, 1, 2);
        Check.is("blame there", x.blame(), WardEngine.NONE);
        Check.row("counts there", Check.counts(x, 21), 2, 2, 1, 0);
        Check.outside("no pair there", () -> x.pairOf(0, 0));
    }

    private static void policyOfBoth() {
        Check.sentence("(a new policy is that of both, and empties both caches)");
        WardEngine x = Check.ready("mark:tag=n;", "mark n 1;mark n 1;mark n 1;");
        x.run(2);
        x.twin();
        Check.policy(x, "mark:tag=n+5;");
        for (int k = 0; k < 2; k++) {
            Check.row("questions, hits, kept", new int[] {x.state(3), x.state(4), x.state(8)}, 0, 0, 0);
            x.run(1);
            Check.row("by the new policy", new int[] {x.journal(0, 2), x.journal(0, 3)}, 2, 6);
            x.swap();
        }
    }

    private static void beginOfOne() {
        Check.sentence("begin: .. and the other machine stay");
        WardEngine x = Check.ready("mark:", "mark;word 1 2;input 3;");
        x.run(1);
        x.twin();
        x.begin(0);
        x.swap();
        Check.row("it stays", new int[] {x.state(2), x.state(5), x.state(8), x.state(9), x.wordOf(1, 0), x.codeOf(0, 0)}, 1, 1, 1, 1, 2, 21);
        Check.image(x, "");
        x.swap();
        Check.is("image of the other one", x.unlike(0), WardEngine.NONE);
    }

    private static void unlikeCode() {
        Check.sentence("unlike: The first place .. of code (what = 0; its int or its tag) .. NONE");
        for (int k : new int[] {0, 1, 62, 63}) {
            WardEngine x = new WardEngine();
            Check.is("alike", x.unlike(0), WardEngine.NONE);
            x.code(k, LEAST, 0);
            Check.is("its int", x.unlike(0), k);
            x.code(k, 0, LEAST);
            Check.is("its tag", x.unlike(0), k);
            x.swap();
            Check.is("from the other side", x.unlike(0), k);
            x.code(63, 1, 1);
            Check.is("the first one", x.unlike(0), k);
            x.code(k, 0, LEAST);
            Check.is("the next one", x.unlike(0), k == 63 ? WardEngine.NONE : 63);
            Check.row("nothing else", new int[] {x.unlike(1), x.unlike(2), x.unlike(3)}, -1, -1, -1);
            x.twin();
            Check.is("alike", x.unlike(0), WardEngine.NONE);
        }
        WardEngine x = new WardEngine();
        x.code(5, 0, 1);
        x.code(6, 1, 0);
        Check.is("a tag ahead of an int", x.unlike(0), 5);
        x.code(4, 1, 0);
        Check.is("an int ahead of a tag", x.unlike(0), 4);
    }

    private static void unlikeWords() {
        Check.sentence("of words (1; int, held tag or owner)");
        for (int k : new int[] {0, 1, 94, 95}) {
            WardEngine x = new WardEngine();
            Check.is("alike", x.unlike(1), WardEngine.NONE);
            x.word(k, MOST, 0, 0);
            Check.is("int", x.unlike(1), k);
            x.word(k, 0, MOST, 0);
            Check.is("held tag", x.unlike(1), k);
            x.word(k, 0, 0, MOST);
            Check.is("owner", x.unlike(1), k);
            x.swap();
            Check.is("from the other side", x.unlike(1), k);
            Check.row("nothing else", new int[] {x.unlike(0), x.unlike(2), x.unlike(3)}, -1, -1, -1);
            x.word(k, 0, 0, MOST);
            Check.is("alike", x.unlike(1), WardEngine.NONE);
        }
        int[][] rows = {{1, 0, 0}, {0, 1, 0}, {0, 0, 1}};
        for (int one = 0; one < 3; one++) {
            for (int two = 0; two < 3; two++) {
                WardEngine x = new WardEngine();
                x.word(40, rows[one][0], rows[one][1], rows[one][2]);
                x.word(41, rows[two][0], rows[two][1], rows[two][2]);
                Check.is("the first one", x.unlike(1), 40);
            }
        }
    }

    private static void unlikeRegisters() {
        Check.sentence("of registers (2; int or tag, 8 the PC)");
        for (int r = 0; r <= 8; r++) {
            WardEngine x = new WardEngine();
            Check.is("alike", x.unlike(2), WardEngine.NONE);
            x.register(r, 1, 0);
            Check.is("int", x.unlike(2), r);
            x.register(r, 0, -1);
            Check.is("tag", x.unlike(2), r);
            x.register(8, 1, 1);
            Check.is("the first one", x.unlike(2), r);
            x.swap();
            Check.is("from the other side", x.unlike(2), r);
            Check.row("nothing else", new int[] {x.unlike(0), x.unlike(1), x.unlike(3)}, -1, -1, -1);
        }
        WardEngine x = new WardEngine();
        x.register(3, 0, 1);
        x.register(4, 1, 0);
        Check.is("a tag ahead of an int", x.unlike(2), 3);
        x.register(2, 1, 0);
        Check.is("an int ahead of a tag", x.unlike(2), 2);
    }

    private static WardEngine puttingOut() {
        return Check.ready("out,jump:", "out a 1;jump;");
    }

    private static void unlikeOutputs() {
        Check.sentence("of outputs that are kept (3; the ints, or one has it and the other hasn't)");
        WardEngine x = puttingOut();
        x.twin();
        Check.is("none and none", x.unlike(3), WardEngine.NONE);
        x.run(1);
        Check.is("one, a 0, and none", x.unlike(3), 0);
        x.swap();
        Check.is("none and one", x.unlike(3), 0);
        x.run(3);
        Check.is("two and one", x.unlike(3), 1);
        x.swap();
        Check.is("one and two", x.unlike(3), 1);
        x.register(1, 5, 0);
        x.run(2);
        Check.is("the second is other", x.unlike(3), 1);
        x.run(20);
        Check.is("the first that is", x.unlike(3), 1);
        x.twin();
        Check.is("alike", x.unlike(3), WardEngine.NONE);
    }

    private static void outputsBeyondForty() {
        Check.sentence("of outputs that are kept .. OUTPUTS, of which the first 40 are kept");
        WardEngine x = puttingOut();
        x.run(2 * 39);
        x.twin();
        x.run(2);
        Check.is("forty and 39", x.unlike(3), 39);
        x.swap();
        Check.is("39 and forty", x.unlike(3), 39);
        x.register(1, 6, 0);
        x.run(2);
        Check.is("the fortieth is other", x.unlike(3), 39);
        x.twin();
        x.run(2);
        Check.is("41 and forty", x.unlike(3), WardEngine.NONE);
        x.swap();
        x.register(1, 7, 0);
        x.run(4);
        Check.is("42 and 41", x.unlike(3), WardEngine.NONE);
        Check.is("there were 42", x.state(1), 42);
    }

    private static void outputsBehindBegin() {
        Check.sentence("begin: All of the machine at hand is as at first (tags, inputs, outputs");
        WardEngine x = puttingOut();
        x.register(1, 5, 0);
        x.run(6);
        x.begin(0);
        Check.is("none and none", x.unlike(3), WardEngine.NONE);
        x.swap();
        Check.is("none and none", x.unlike(3), WardEngine.NONE);
        WardEngine y = puttingOut();
        y.register(1, 5, 0);
        y.run(6);
        y.twin();
        y.begin(0);
        Check.is("none and three", y.unlike(3), 0);
    }

    private static void otherWhat() {
        Check.sentence("unlike: IllegalArgumentException for another what");
        WardEngine x = new WardEngine();
        for (int what : new int[] {-1, 4, LEAST, MOST}) {
            Check.illegal("unlike(" + what + ")", () -> x.unlike(what));
        }
    }
}
