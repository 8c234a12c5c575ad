/** Promises 20 to 22: blame, journal, count; section 5. */
public final class JournalTest {
    public static void main(String[] args) {
        blame();
        blameOfTheSecond();
        entries();
        sixteenAreKept();
        counts();
        wrongCalls();
        Check.end("JournalTest");
    }

    private static void blame() {
        WardEngine x = new WardEngine();
        String text = "move:need 1;\n # need 0;\n need b ;need c;halt:";
        Check.policy(x, text);
        Check.is("none at first", x.blame(), WardEngine.NONE);
        x.register(1, 0, 1);
        x.code(0, Check.code(2, 0, 1, 2, 0), 0);
        x.run(1);
        Check.is("the second need", x.blame(), text.indexOf("need c"));
        x.twin();
        Check.text(x, "halt:");
        Check.is("another text", x.blame(), text.indexOf("need c"));
        x.policy();
        Check.is("another policy", x.blame(), text.indexOf("need c"));
        x.begin(0);
        Check.is("behind begin", x.blame(), WardEngine.NONE);
        x.run(1);
        Check.is("halted", x.blame(), WardEngine.NONE);
        x.swap();
        Check.is("the other machine's", x.blame(), text.indexOf("need c"));
        Check.image(x, "");
        Check.is("behind image", x.blame(), WardEngine.NONE);
        Check.policy(x, text);
        x.code(0, 2, 0);
        x.run(1);
        Check.is("the first need", x.blame(), text.indexOf("need b"));
    }

    private static void blameOfTheSecond() {
        WardEngine x = new WardEngine();
        Check.policy(x, "mark:tag=1;need n;halt:");
        x.code(0, Check.code(21, 1, 0, 0, 1), 0);
        x.code(1, 21, 0);
        Check.is("one is done", x.run(2), 1);
        Check.is("the violation", x.blame(), "mark:tag=1;".length());
        Check.is("in the cache", x.cacheOf(1, 1), 3);
        Check.is("how", x.journal(0, 2), 2);
    }

    private static void entry(WardEngine x, int i, int... due) {
        for (int what = 0; what < 6; what++) {
            Check.is("journal(" + i + ", " + what + ")", x.journal(i, what), due[what]);
        }
    }

    private static void entries() {
        WardEngine x = new WardEngine();
        Check.policy(x, "constant:tag=3;jump:next=pc+4;mark,move:halt:tag=8;next=9;add:tag=pair(1,2);");
        x.code(0, Check.code(1, 1, 0, 0, 5), 0);
        x.code(1, Check.code(13, 0, 0, 0, 10), 0);
        x.code(10, Check.code(21, 1, 0, 0, 0), 0);
        x.code(11, Check.code(2, 2, 1, 0, 0), 0);
        x.code(12, Check.code(3, 2, 1, 0, 0), 0);
        x.code(13, Check.code(1, 1, 0, 0, 5), 0);
        x.code(14, 0, 0);
        Check.is("run", x.run(10), 7);
        entry(x, 6, 0, 1, 2, 3, 0, 0);
        entry(x, 5, 1, 13, 2, 0, 4, 0);
        entry(x, 4, 10, 21, 2, 3, 4, 0);
        entry(x, 3, 11, 2, 2, 0, 4, 0);
        entry(x, 2, 12, 3, 1, 1000000, 4, 0);
        entry(x, 1, 13, 1, 3, 3, 4, 0);
        entry(x, 0, 14, 0, 2, 8, 9, 1);
        Check.is("in it", x.state(9), 7);
        WardEngine y = new WardEngine();
        Check.policy(y, "mark:tag=4;need 0;go:");
        y.code(0, Check.code(15, 0, 1, 0, 0), 0);
        y.register(1, 7, 0);
        y.code(7, 21, 0);
        y.register(8, 0, 6);
        y.run(5);
        entry(y, 1, 0, 15, 2, 0, 6, 0);
        entry(y, 0, 7, 21, 2, 0, 0, 3);
        Check.badState("it has stopped", () -> y.run(1));
        Check.is("nothing is tried", y.state(9), 2);
    }

    private static void sixteenAreKept() {
        WardEngine x = new WardEngine();
        Check.policy(x, "mark:");
        for (int k = 0; k < 64; k++) {
            x.code(k, Check.code(21, 0, 0, 0, 0), 0);
        }
        for (int k = 1; k <= 40; k++) {
            x.run(1);
            Check.is("in it", x.state(9), Math.min(k, 16));
            Check.is("the last", x.journal(0, 0), k - 1);
            Check.is("the first", x.journal(Math.min(k, 16) - 1, 0), Math.max(0, k - 16));
        }
        Check.outside("journal(16, 0)", () -> x.journal(16, 0));
        x.begin(0);
        Check.is("behind begin", x.state(9), 0);
    }

    private static void counts() {
        WardEngine x = new WardEngine();
        Check.policy(x, "mark:tag=n;move:need base(1);in:load:halt:");
        x.code(0, Check.code(21, 0, 0, 0, 0), 0);
        x.code(1, Check.code(21, 0, 0, 0, 0), 0);
        x.code(2, Check.code(21, 0, 0, 0, 1), 0);
        x.code(3, Check.code(2, 0, 0, 0, 1), 0);
        x.code(4, Check.code(18, 0, 0, 0, 1), 0);
        x.run(5);
        x.run(1);
        x.run(1);
        x.input(0, 0);
        x.run(1);
        Check.is("marks done", x.count(21, 0), 3);
        Check.is("marks asked", x.count(21, 1), 3);
        Check.is("marks hit", x.count(21, 2), 1);
        Check.is("marks not done", x.count(21, 3), 0);
        Check.is("moves done", x.count(2, 0), 1);
        Check.is("moves asked", x.count(2, 1), 0);
        Check.is("ins done", x.count(18, 0), 1);
        Check.is("ins asked", x.count(18, 1), 4);
        Check.is("ins hit", x.count(18, 2), 3);
        Check.is("ins not done", x.count(18, 3), 3);
        x.code(5, 0, 0);
        x.run(1);
        Check.is("halts done", x.count(0, 0), 1);
        WardEngine y = new WardEngine();
        Check.policy(y, "move:need base(1)+1;");
        y.code(0, 2, 0);
        y.run(1);
        Check.is("not done, though without a question", y.count(2, 3), 1);
        Check.is("worked out", y.journal(0, 2), 1);
    }

    private static void wrongCalls() {
        WardEngine x = new WardEngine();
        Check.outside("journal(0, 9)", () -> x.journal(0, 9));
        x.run(1);
        for (int i : new int[] {-1, 1, 16, Integer.MAX_VALUE, Integer.MIN_VALUE}) {
            Check.outside("journal(" + i + ", 6)", () -> x.journal(i, 6));
        }
        for (int what : new int[] {-1, 6, Integer.MAX_VALUE}) {
            Check.illegal("journal(0, " + what + ")", () -> x.journal(0, what));
        }
        for (int kind : new int[] {-1, 22, Integer.MAX_VALUE, Integer.MIN_VALUE}) {
            Check.illegal("count(" + kind + ", 0)", () -> x.count(kind, 0));
        }
        for (int what : new int[] {-1, 4, Integer.MAX_VALUE, Integer.MIN_VALUE}) {
            Check.illegal("count(0, " + what + ")", () -> x.count(0, what));
        }
    }
}
