/** The edges of promises 13, 14 and 20 to 22 and of section 5: run, state, blame, journal, count; how it stops and waits. */
public final class EdgesOfRunTest {
    private static final int LEAST = Integer.MIN_VALUE;
    private static final int MOST = Integer.MAX_VALUE;

    public static void main(String[] args) {
        howMany();
        manyCalls();
        outsideOfRun();
        stopped();
        nothingDone();
        orderOfStops();
        waits();
        waitsStill();
        waitsElsewhere();
        triesAgain();
        state();
        stateNumbers();
        blame();
        blamePlaces();
        journalRows();
        journalOfStops();
        journalKeepsSixteen();
        journalSinceBegin();
        wrongJournal();
        counts();
        wrongCounts();
        Check.end("EdgesOfRunTest");
    }

    private static WardEngine endless() {
        return Check.ready("jump:", "jump;");
    }

    private static void howMany() {
        Check.sentence("run: Does n instructions .. how many were done (halt counts .. with n 0 nothing is tried)");
        WardEngine x = endless();
        Check.is("run(0)", x.run(0), 0);
        Check.row("nothing is tried", new int[] {x.state(0), x.state(2), x.state(3), x.state(9)}, 0, 0, 0, 0);
        Check.is("run(1)", x.run(1), 1);
        Check.is("run(1999)", x.run(1999), 1999);
        Check.is("run(2000)", x.run(2000), 2000);
        Check.is("done", x.state(2), 4000);
        Check.is("questions", x.state(3), 4000);
        Check.is("hits", x.state(4), 3999);
        WardEngine y = Check.ready("mark,halt:", "mark;mark;halt;");
        Check.is("up to the halt", y.run(2), 2);
        Check.is("goes on", y.state(0), 0);
        Check.is("the halt", y.run(2000), 1);
        WardEngine wrong = new WardEngine();
        Check.is("nothing is tried with 0", wrong.run(0), 0);
        Check.is("so it isn't wrong", wrong.state(0), 0);
    }

    /** The 512th call is answered as the first one; making the machine took eight calls. */
    private static void manyCalls() {
        Check.sentence("An object is used for at most 512 calls after it has been made");
        WardEngine runs = endless();
        for (int call = 9; call < 512; call++) {
            Check.is("call " + call, runs.run(1), 1);
        }
        Check.is("the 512th call", runs.state(2), 503);
        WardEngine texts = endless();
        for (int call = 9; call < 509; call += 5) {
            Check.is("policy", texts.policy(), 4);
            Check.is("image", texts.image(), WardEngine.NONE);
            texts.keep();
            texts.twin();
            texts.swap();
        }
        Check.is("call 509", texts.run(2000), 2000);
        Check.is("call 510", texts.journal(15, 1), 13);
        Check.is("call 511", texts.unlike(2), WardEngine.NONE);
        Check.is("the 512th call", texts.state(4), 1999);
    }

    private static void outsideOfRun() {
        Check.sentence("run: IllegalArgumentException if n is not 0 .. 2000; IllegalStateException if it has stopped");
        WardEngine x = endless();
        for (int n : new int[] {-1, 2001, LEAST, MOST}) {
            Check.illegal("run(" + n + ")", () -> x.run(n));
        }
        Check.row("nothing is tried", new int[] {x.state(0), x.state(2), x.state(9)}, 0, 0, 0);
    }

    /** One that has come to a state: 1 halted, 2 wrong, 3 a violation, 4 no room, 5 waits. */
    private static WardEngine atState(int state) {
        String[] images = {"", "halt;", "drop;", "out;", "make;", "in;"};
        WardEngine x = Check.ready("halt:out:need 0;make:in:", images[state] + "register 8 0 tag 4;");
        x.run(1);
        Check.is("state", x.state(0), state);
        return x;
    }

    private static void stopped() {
        Check.sentence("IllegalStateException if it has stopped (it may go on if it waited)");
        for (int state = 1; state <= 4; state++) {
            WardEngine x = atState(state);
            int done = x.state(2);
            for (int n : new int[] {0, 1, 2000}) {
                Check.badState("run(" + n + ") at state " + state, () -> x.run(n));
            }
            for (int n : new int[] {-1, 2001}) {
                Check.illegal("n goes first at state " + state, () -> x.run(n));
            }
            x.register(8, 1, 0);
            x.code(1, 0, 0);
            x.input(1, 1);
            Check.badState("whatever is set", () -> x.run(1));
            x.policy();
            Check.badState("or told", () -> x.run(1));
            Check.row("it stays", new int[] {x.state(0), x.state(2), x.state(9)}, state, done, 1);
            x.swap();
            Check.is("the other one goes", x.run(1), 1);
            x.swap();
            Check.badState("this one has stopped still", () -> x.run(1));
        }
        WardEngine waits = atState(5);
        Check.is("run(0) of one that waits", waits.run(0), 0);
        Check.is("run(2000) of one that waits", waits.run(2000), 0);
        Check.illegal("run(2001) of one that waits", () -> waits.run(2001));
    }

    private static void nothingDone() {
        Check.sentence("It STOPS, with nothing done .. PC staying");
        String[] lines = {"drop a 1 b 2;", "out a 1 b 2;", "make a 1 b 2;", "in a 1 b 2;", "load a 1 b 2;", "store a 1 b 2;"};
        int[] states = {2, 3, 4, 5, 2, 2};
        for (int k = 0; k < lines.length; k++) {
            WardEngine x = Check.ready("out:tag=9;next=9;owner=9;need 0;make,in,load,store:tag=9;next=9;owner=9;",
                    lines[k] + "register 1 2 tag 3;register 2 100 tag 5;register 8 0 tag 6;");
            Check.is(lines[k], x.run(5), 0);
            Check.is("state", x.state(0), states[k]);
            Check.row("a", Check.register(x, 1), 2, 3);
            Check.row("b", Check.register(x, 2), 100, 5);
            Check.row("PC", Check.register(x, 8), 0, 6);
            Check.row("outputs, done, makes, journal", new int[] {x.state(1), x.state(2), x.state(6), x.state(9)}, 0, 0, 0, 1);
            Check.is("its question counts", x.state(3), k == 0 ? 0 : 1);
            x.twin();
            Check.is("no word is unlike those of a new one", unlikeNew(x), WardEngine.NONE);
        }
    }

    private static int unlikeNew(WardEngine x) {
        x.begin(0);
        return x.unlike(1);
    }

    /** Which state comes of a rule's end and a kind that couldn't be done anyway. */
    private static void stops(String policy, String image, int due) {
        WardEngine x = Check.ready(policy, image);
        Check.is("run", x.run(1), 0);
        Check.is(policy + " " + image, x.state(0), due);
        Check.is("journal", x.journal(0, 5), due);
    }

    private static void orderOfStops() {
        Check.sentence("In this order.");
        stops("load:need 0;", "load n 96;", 3);
        stops("load:need w+2;", "load n 96;", 3);
        stops("store:need 0;", "store n -1;", 3);
        stops("in:need 0;", "in;", 3);
        stops("make:need 0;", "make;", 3);
        stops("make:need 0;", "make b 1;register 1 17;", 3);
        stops("load:need 1;", "load n 96;", 2);
        stops("in:need 1;", "in;", 5);
        stops("make:need 1;", "make;", 4);
        stops("halt:need 0;", "register 8 64;", 2);
        stops("halt:need 0;", "mark;", 2);
        // Sixty pairs, and then the 61st in the rule of a load, an in and a make that couldn't be done.
        String pairs = "add:need pair(vb+1,0);jump:load,in,make:need pair(0,1);";
        for (int kind : new int[] {11, 18, 19}) {
            WardEngine x = Check.ready(pairs, "add a 1 b 1 c 2;jump;register 2 1;");
            x.run(120);
            x.register(8, 2, 0);
            x.register(1, 0, 0);
            x.code(2, Check.code(kind, 0, 1, 0, 96), 0);
            Check.is("run", x.run(1), 0);
            Check.row("no room for a pair comes first", new int[] {x.state(0), x.state(7)}, 4, 60);
        }
    }

    private static void waits() {
        Check.sentence("it WAITS (5; and goes on when there is one) for an input");
        WardEngine x = Check.ready("in:tag=i;mark:", "mark;in a 1;mark;in a 2;mark;");
        Check.is("up to the in", x.run(9), 1);
        Check.row("waits at it", new int[] {x.state(0), x.registerOf(8, 0)}, 5, 1);
        Check.is("one comes", x.input(7, 8), 1);
        Check.is("waits till run", x.state(0), 5);
        Check.is("on to the next in", x.run(9), 2);
        Check.row("waits again", new int[] {x.state(0), x.registerOf(8, 0), x.state(5)}, 5, 3, 0);
        Check.row("the input", Check.register(x, 1), 7, 8);
        x.input(9, 10);
        Check.is("just the in", x.run(1), 1);
        Check.is("goes on", x.state(0), 0);
        Check.row("the input", Check.register(x, 2), 9, 10);
    }

    private static void waitsStill() {
        Check.sentence("0 if it waits still .. waits (5; till run() goes on)");
        WardEngine x = Check.ready("in,halt:", "in;");
        for (int k = 1; k <= 3; k++) {
            Check.is("run", x.run(5), 0);
            Check.is("state", x.state(0), 5);
            Check.is("tried once a call", x.state(9), k);
        }
        x.input(1, 1);
        Check.is("run(0)", x.run(0), 0);
        Check.row("nothing is tried", new int[] {x.state(0), x.state(9), x.state(5)}, 5, 3, 1);
        Check.is("both", x.run(2), 2);
        Check.is("halted", x.state(0), 1);
    }

    private static void waitsElsewhere() {
        Check.sentence("(it may go on if it waited)");
        WardEngine x = Check.ready("in,mark:", "in;mark;mark;");
        x.run(1);
        x.register(8, 1, 0);
        Check.is("waits till run", x.state(0), 5);
        Check.is("from another place", x.run(1), 1);
        Check.is("goes on", x.state(0), 0);
        x.register(8, 0, 0);
        x.run(1);
        x.code(0, 21, 0);
        Check.is("with other code", x.run(2), 2);
        Check.is("goes on", x.state(0), 0);
        x.code(3, 18, 0);
        x.run(9);
        Check.is("waits", x.state(0), 5);
        Check.policy(x, "mark:");
        Check.is("waits with another policy", x.state(0), 5);
        Check.is("by which it is wrong", x.run(1), 0);
        Check.is("wrong", x.state(0), 2);
    }

    private static void triesAgain() {
        Check.sentence("and the question and hit that count; also each time that it tries again");
        WardEngine x = Check.ready("in:tag=i;", "in a 1;");
        for (int k = 1; k <= 20; k++) {
            x.run(3);
            Check.row("try " + k, new int[] {x.state(2), x.state(3), x.state(4), x.state(8), x.state(9)}, 0, k, k - 1, 1, Math.min(k, 16));
            Check.row("counts", Check.counts(x, 18), 0, k, k - 1, k);
            Check.row("journal", Check.entry(x, 0), 0, 18, k == 1 ? 2 : 3, 0, 0, 5);
        }
        x.input(1, 5);
        x.run(1);
        Check.row("another question", new int[] {x.state(2), x.state(3), x.state(4), x.state(8)}, 1, 21, 19, 2);
        Check.row("counts", Check.counts(x, 18), 1, 21, 19, 20);
    }

    private static void state() {
        Check.sentence("state: IllegalArgumentException for another what");
        WardEngine x = new WardEngine();
        for (int what : new int[] {-1, 10, LEAST, MOST}) {
            Check.illegal("state(" + what + ")", () -> x.state(what));
        }
    }

    private static void stateNumbers() {
        Check.sentence("state: 0 whether it goes on .. 9 instructions in the journal");
        WardEngine x = Check.ready("mark:tag=n;out:make:owner=1;add:tag=pair(b,n);in:",
                "mark n 1;mark n 1;mark n 2;out;out;out;make a 1 b 2;make a 1 b 2;add a 3 n 1;add a 3 n 2;add a 3 n 2;add a 3 n 3;add a 3 n 4;in;in;"
                + "register 2 1;input 1;");
        Check.is("run", x.run(99), 14);
        int[] due = {5, 3, 14, 10, 5, 0, 2, 4, 5, 15};
        for (int what = 0; what < 10; what++) {
            Check.is("state(" + what + ")", x.state(what), due[what]);
        }
    }

    private static void blame() {
        Check.sentence("blame: .. of the word of the need that was 0, if the machine has a VIOLATION; NONE otherwise");
        for (int state = 1; state <= 5; state++) {
            WardEngine x = atState(state);
            Check.is("at state " + state, x.blame(), state == 3 ? "halt:out:".length() : WardEngine.NONE);
        }
        WardEngine y = Check.ready("mark:need 1;halt:", "mark;halt;");
        Check.is("at first", y.blame(), WardEngine.NONE);
        y.run(1);
        Check.is("a need that wasn't 0", y.blame(), WardEngine.NONE);
    }

    private static void blamePlaces() {
        Check.sentence("blame: The place, in the policy's text as it was read");
        WardEngine first = Check.ready("halt:", "out;");
        Check.policy(first, "out:need 0;");
        first.run(1);
        Check.is("behind the kind", first.blame(), 4);
        String text = "# need\n out :\n need a ; tag=1; need !a;need 0;";
        for (int tag = 0; tag < 2; tag++) {
            WardEngine x = Check.ready(text, "out a 1;");
            x.register(1, 0, tag);
            x.run(1);
            Check.is("a " + tag, x.blame(), text.indexOf(tag == 0 ? "need a" : "need !a"));
            x.end(0);
            Check.is("whatever becomes of the text", x.blame(), text.indexOf(tag == 0 ? "need a" : "need !a"));
            x.policy();
            Check.is("and of the policy", x.blame(), text.indexOf(tag == 0 ? "need a" : "need !a"));
            x.begin(0);
            Check.is("till begin", x.blame(), WardEngine.NONE);
        }
        String longest = "out:" + "need 1;".repeat(127) + "need 0;";
        WardEngine last = Check.ruled(longest);
        last.code(0, 17, 0);
        last.run(1);
        Check.is("the last of 128", last.blame(), longest.length() - 7);
        String pairs = "out:tag=pair(1,1);need base(9);need base(9)+1;";
        WardEngine worked = Check.ready(pairs, "out;");
        worked.run(1);
        Check.is("of a rule without a question", worked.blame(), pairs.lastIndexOf("need"));
    }

    private static void journalRows() {
        Check.sentence("TAG and NEXT, as it took them (also those that aren't told; also of kinds that set none)");
        WardEngine x = Check.ready("mark,constant,store,make:jump,branch,go,out,drop:tag=7;next=pc+1;add:tag=base(5);in:next=9;",
                "mark a 1;constant a 2;store;out;branch n 6;halt;add a 3;jump n 8;in a 4;drop;register 1 0 tag 3;register 8 0 tag 20;input 1;");
        x.register(0, 1, 0);
        Check.is("run", x.run(9), 9);
        int[][] due = {{0, 21, 2, 3, 20, 0}, {1, 1, 2, 0, 20, 0}, {2, 12, 2, 0, 20, 0}, {3, 17, 2, 7, 21, 0}, {4, 14, 2, 7, 22, 0},
            {6, 3, 1, -1, 22, 0}, {7, 13, 2, 7, 23, 0}, {8, 18, 2, 0, 9, 0}, {9, 20, 2, 7, 10, 0}};
        for (int k = 0; k < due.length; k++) {
            Check.row("entry " + k, Check.entry(x, 8 - k), due[k]);
        }
    }

    private static void journalOfStops() {
        Check.sentence("both 0 if it wasn't done; how it ended: 0 done (1 of halt), or the state then");
        int[] kinds = {0, 0, 20, 17, 19, 18};
        int[] hows = {0, 2, 0, 2, 2, 2};
        for (int state = 1; state <= 5; state++) {
            WardEngine x = atState(state);
            Check.row("at state " + state, Check.entry(x, 0), 0, kinds[state], hows[state], 0, state == 1 ? 4 : 0, state);
        }
        Check.sentence("its kind (NONE, if p is no place of code); how its rule was asked (0 not at all");
        WardEngine x = Check.ready("mark:tag=1;next=2;", "at 63;mark;register 8 63;");
        x.run(2);
        Check.row("behind one that was asked", Check.entry(x, 0), 64, WardEngine.NONE, 0, 0, 0, 2);
        Check.row("it", Check.entry(x, 1), 63, 21, 2, 1, 2, 0);
        Check.row("counts", Check.counts(x, 21), 1, 1, 0, 0);
        WardEngine y = Check.ready("mark:tag=1;next=2;", "mark;halt;");
        y.run(2);
        Check.row("a kind without a rule", Check.entry(y, 0), 1, 0, 0, 0, 0, 2);
        Check.row("counts", Check.counts(y, 0), 0, 0, 0, 0);
        WardEngine z = Check.ready("mark:tag=base(1);next=2;need n;", "mark n 1;mark;");
        z.run(2);
        Check.row("worked out", Check.entry(z, 1), 0, 21, 1, -1, 2, 0);
        Check.row("worked out, a violation", Check.entry(z, 0), 1, 21, 1, 0, 0, 3);
    }

    private static void journalKeepsSixteen() {
        Check.sentence("comes into the JOURNAL, which has the last 16");
        WardEngine x = Check.ruled("mark:");
        for (int k = 0; k < 64; k++) {
            x.code(k, 21, 0);
        }
        for (int k = 1; k <= 35; k++) {
            x.run(1);
            int kept = Math.min(k, 16);
            Check.row("after " + k, new int[] {x.state(9), x.journal(0, 0), x.journal(kept - 1, 0)}, kept, k - 1, k - kept);
            Check.outside("journal(" + kept + ", 0)", () -> x.journal(kept, 0));
        }
        x.run(29);
        x.run(1);
        Check.row("one that was not done, too", new int[] {x.state(9), x.journal(0, 0), x.journal(15, 0)}, 16, 64, 49);
    }

    private static void journalSinceBegin() {
        Check.sentence("the last 16 since begin() .. COUNTS of a kind since begin()");
        WardEngine x = Check.ready("mark:", "mark;mark;mark;");
        x.run(3);
        Check.policy(x, "mark:tag=1;");
        Check.row("a policy changes neither", new int[] {x.state(9), x.count(21, 0), x.count(21, 1), x.count(21, 2)}, 3, 3, 3, 2);
        Check.is("a faulty image changes neither", Check.image(x, "mark"), 4);
        Check.row("a faulty image changes neither", new int[] {x.state(9), x.count(21, 0), x.count(21, 1), x.count(21, 2)}, 3, 3, 3, 2);
        Check.is("an image", Check.image(x, "mark;"), WardEngine.NONE);
        Check.row("is as behind begin", new int[] {x.state(9), x.count(21, 0), x.count(21, 1), x.count(21, 2)}, 0, 0, 0, 0);
        x.run(1);
        x.begin(0);
        Check.row("begin", new int[] {x.state(9), x.count(21, 0), x.count(21, 1), x.count(21, 2)}, 0, 0, 0, 0);
    }

    private static void wrongJournal() {
        Check.sentence("journal: IndexOutOfBoundsException if the journal hasn't so many; IllegalArgumentException for another what");
        WardEngine x = Check.ready("mark:", "mark;mark;");
        for (int i : new int[] {-1, 0, 1, LEAST, MOST}) {
            Check.outside("journal(" + i + ", 0) of none", () -> x.journal(i, 0));
        }
        x.run(2);
        for (int i : new int[] {-1, 2, 15, 16, LEAST, MOST}) {
            Check.outside("journal(" + i + ", 0)", () -> x.journal(i, 0));
            Check.outside("the row goes first", () -> x.journal(i, 6));
        }
        for (int what : new int[] {-1, 6, LEAST, MOST}) {
            Check.illegal("journal(0, " + what + ")", () -> x.journal(0, what));
            Check.illegal("journal(1, " + what + ")", () -> x.journal(1, what));
        }
    }

    private static void counts() {
        Check.sentence("how many were done, questions, hits, and how often its rule was asked, but it was not done");
        for (int state = 1; state <= 5; state++) {
            WardEngine x = atState(state);
            int[] kinds = {0, 0, 20, 17, 19, 18};
            int asked = state == 2 ? 0 : 1;
            Check.row("at state " + state, Check.counts(x, kinds[state]), state == 1 ? 1 : 0, asked, 0, state > 2 ? 1 : 0);
        }
        WardEngine x = Check.ready("load:store:tag=base(1);", "load;load;load n 95;store n 96;");
        x.run(9);
        Check.row("of load", Check.counts(x, 11), 3, 3, 2, 0);
        Check.row("of store", Check.counts(x, 12), 0, 0, 0, 1);
        Check.row("of halt", Check.counts(x, 0), 0, 0, 0, 0);
        Check.row("of mark", Check.counts(x, 21), 0, 0, 0, 0);
    }

    private static void wrongCounts() {
        Check.sentence("count: IllegalArgumentException if there is no such kind or what");
        WardEngine x = Check.ready("halt,mark:", "mark;");
        x.run(2);
        for (int kind : new int[] {-1, 22, 31, LEAST, MOST}) {
            for (int what : new int[] {-1, 0, 3, 4}) {
                Check.illegal("count(" + kind + ", " + what + ")", () -> x.count(kind, what));
            }
        }
        for (int what : new int[] {-1, 4, LEAST, MOST}) {
            Check.illegal("count(0, " + what + ")", () -> x.count(0, what));
            Check.illegal("count(21, " + what + ")", () -> x.count(21, what));
        }
        Check.row("of the first kind", Check.counts(x, 0), 1, 1, 0, 0);
        Check.row("of the last kind", Check.counts(x, 21), 1, 1, 0, 0);
    }
}
