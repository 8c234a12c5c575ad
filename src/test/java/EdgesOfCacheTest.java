/** The edges of section 3 and of promise 23: questions, the eight that are kept, hits, cacheOf. */
public final class EdgesOfCacheTest {
    private static final int LEAST = Integer.MIN_VALUE;
    private static final int MOST = Integer.MAX_VALUE;

    public static void main(String[] args) {
        kindIsPartOfIt();
        allThatTheRuleNames();
        onlyWhatTheRuleNames();
        noNames();
        pairAndBase();
        eightAreKept();
        theFirstGoes();
        hitsChangeNoOrder();
        notTwice();
        violations();
        oldParts();
        untoldOfHits();
        whoAsksNone();
        staysThroughAll();
        untilBeginOrPolicy();
        answers();
        wrongCalls();
        Check.end("EdgesOfCacheTest");
    }

    /** Questions, hits, questions that are kept. */
    private static int[] figures(WardEngine x) {
        return new int[] {x.state(3), x.state(4), x.state(8)};
    }

    private static void kindIsPartOfIt() {
        Check.sentence("A QUESTION is a kind and all that its rule names in it");
        WardEngine x = Check.ready("mark,move,out:tag=n;", "mark n 1;move n 1;out n 1;mark n 1;move n 1;out n 1;");
        Check.is("run", x.run(6), 6);
        Check.row("three questions, though of one rule", figures(x), 6, 3, 3);
        Check.row("kinds", new int[] {x.cacheOf(0, 0), x.cacheOf(1, 0), x.cacheOf(2, 0)}, 21, 2, 17);
    }

    /** A load asked twice, with one thing other the second time. */
    private static void differsBy(int name, int due, Runnable change, WardEngine x) {
        x.run(1);
        Check.row("asked", figures(x), 1, 0, 1);
        x.register(8, 0, 0);
        change.run();
        x.run(1);
        Check.row("name " + name + " is other", figures(x), 2, 0, 2);
        for (int k = 0; k < 15; k++) {
            Check.is("name " + k + " by " + name, x.cacheOf(1, 10 + k) - x.cacheOf(0, 10 + k), k == name ? due : 0);
        }
    }

    private static WardEngine naming(int kind) {
        WardEngine x = Check.ruled("load,in:next=pc+a+b+c+va+vb+vc+w+o+i+n+code+clear+fresh;make:need before;");
        x.code(0, Check.code(kind, 1, 2, 3, 4), 0);
        return x;
    }

    private static void allThatTheRuleNames() {
        Check.sentence("all that its rule names in it (pc to fresh; each once), as they are");
        WardEngine pc = naming(11);
        differsBy(0, 7, () -> pc.register(8, 0, 7), pc);
        for (int k = 0; k < 3; k++) {
            int r = k + 1;
            WardEngine tag = naming(18);
            tag.input(0, 0);
            tag.input(0, 0);
            differsBy(r, LEAST, () -> tag.register(r, 0, LEAST), tag);
            WardEngine value = naming(18);
            value.input(0, 0);
            value.input(0, 0);
            differsBy(3 + r, -1, () -> value.register(r, -1, 0), value);
        }
        WardEngine w = naming(11);
        differsBy(7, 8, () -> w.word(4, 0, 8, 0), w);
        WardEngine o = naming(11);
        differsBy(8, MOST, () -> o.word(4, 0, 0, MOST), o);
        WardEngine i = naming(18);
        i.input(0, 3);
        i.input(0, 5);
        differsBy(9, 2, () -> i.register(1, 0, 0), i);
        WardEngine n = naming(18);
        n.input(0, 0);
        n.input(0, 0);
        differsBy(10, 1, () -> n.code(0, Check.code(18, 1, 2, 3, 5), 0), n);
        WardEngine code = naming(11);
        differsBy(11, 9, () -> code.code(0, Check.code(11, 1, 2, 3, 4), 9), code);
        WardEngine before = Check.ready("mark:next=before;", "mark tag 3;mark tag 3;mark tag 3;");
        before.run(3);
        Check.row("before", figures(before), 3, 1, 2);
        Check.row("before", new int[] {before.cacheOf(0, 22), before.cacheOf(1, 22)}, -1, 3);
        WardEngine fresh = Check.ready("mark:next=fresh;make:owner=5;", "mark;make a 1 b 2;mark;register 2 1;");
        fresh.run(3);
        Check.row("fresh", new int[] {fresh.state(4), fresh.cacheOf(0, 24), fresh.cacheOf(2, 24)}, 0, 2, 3);
        WardEngine clear = Check.ready("mark:next=clear;", "clear 6;mark;");
        clear.run(1);
        Check.is("clear", clear.cacheOf(0, 23), 6);
    }

    private static void onlyWhatTheRuleNames() {
        Check.sentence("10 + k what it has for name k (pc 0, .. fresh 14; 0 if the rule doesn't name it)");
        WardEngine x = Check.ready("load:tag=b;", "clear 9;load a 1 b 2 c 3 n 5 tag 4;load a 4 b 2 c 5 n 6 tag 8;"
                + "register 1 1 tag 11;register 2 2 tag 12;register 3 3 tag 13;register 8 0 tag 14;word 7 1 held 2 owner 3;word 8 4 held 5 owner 6;");
        Check.is("run", x.run(2), 2);
        Check.row("all else may be other", figures(x), 2, 1, 1);
        for (int k = 0; k < 15; k++) {
            Check.is("name " + k, x.cacheOf(0, 10 + k), k == 2 ? 12 : 0);
        }
    }

    private static void noNames() {
        Check.sentence("HITS are those that are in it");
        WardEngine x = Check.ready("mark:tag=5;", "mark a 1 n 1;mark a 2 n 2;mark a 3 n 3;");
        x.run(3);
        Check.row("a rule that names nothing has one question", figures(x), 3, 2, 1);
        WardEngine y = Check.ready("mark:", "mark a 1;mark a 2;");
        y.run(2);
        Check.row("a rule of no statements, too", figures(y), 2, 1, 1);
    }

    private static void pairAndBase() {
        Check.sentence("of a rule with base or pair there is none: it is worked out each time");
        WardEngine x = Check.ready("mark:tag=base(5);move:tag=0?pair(1,1):2;add:tag=first(1)+second(1);",
                "mark a 1;mark a 2;move;move;add;add;");
        x.run(1);
        x.word(3, 0, 0, 5);
        x.run(5);
        Check.row("only add asks", figures(x), 2, 1, 1);
        Check.row("each time", new int[] {x.registerOf(1, 1), x.registerOf(2, 1)}, -1, 3);
        Check.row("journal", new int[] {x.journal(5, 2), x.journal(4, 2), x.journal(3, 2), x.journal(2, 2), x.journal(1, 2),
            x.journal(0, 2)}, 1, 1, 1, 1, 2, 3);
        Check.row("counts of mark", Check.counts(x, 21), 2, 0, 0, 0);
        Check.row("counts of move", Check.counts(x, 2), 2, 0, 0, 0);
    }

    /** A machine whose place k asks by n = k. */
    private static WardEngine asking(int count) {
        WardEngine x = Check.ruled("mark:tag=n+100;");
        for (int k = 0; k < count; k++) {
            x.code(k, Check.code(21, 1, 0, 0, k), 0);
        }
        return x;
    }

    private static void askFrom(WardEngine x, int place) {
        x.register(8, place, 0);
        Check.is("run", x.run(1), 1);
        Check.is("the answer", x.registerOf(1, 1), place + 100);
    }

    private static void eightAreKept() {
        Check.sentence("The cache keeps the last eight questions that weren't in it when they were asked");
        WardEngine x = asking(20);
        for (int k = 0; k < 20; k++) {
            askFrom(x, k);
            int kept = Math.min(k + 1, 8);
            Check.row("after " + k, new int[] {x.state(8), x.cacheOf(0, 20), x.cacheOf(kept - 1, 20)}, kept, k + 1 - kept, k);
            Check.outside("cacheOf(" + kept + ", 0)", () -> x.cacheOf(kept, 0));
        }
    }

    private static void theFirstGoes() {
        Check.sentence("(the one that came first goes)");
        WardEngine x = asking(9);
        x.run(8);
        askFrom(x, 0);
        Check.row("eight are in it", figures(x), 9, 1, 8);
        askFrom(x, 8);
        Check.row("the ninth comes", figures(x), 10, 1, 8);
        askFrom(x, 1);
        Check.row("the second is in it still", figures(x), 11, 2, 8);
        askFrom(x, 0);
        Check.row("the first is not", figures(x), 12, 2, 8);
        askFrom(x, 1);
        Check.row("now the second isn't, either", figures(x), 13, 2, 8);
        for (int i = 0; i < 8; i++) {
            Check.is("kept " + i, x.cacheOf(i, 20), (i + 3) % 9);
        }
    }

    private static void hitsChangeNoOrder() {
        Check.sentence("The cache keeps the last eight questions that weren't in it when they were asked (the one that came first goes)");
        WardEngine x = asking(9);
        x.run(8);
        for (int k = 0; k < 5; k++) {
            askFrom(x, 0);
        }
        Check.row("hits", figures(x), 13, 5, 8);
        askFrom(x, 8);
        for (int i = 0; i < 8; i++) {
            Check.is("kept " + i, x.cacheOf(i, 20), i + 1);
        }
    }

    private static void notTwice() {
        Check.sentence("HITS are those that are in it; they get the answer that is kept with them");
        WardEngine x = asking(3);
        for (int round = 0; round < 4; round++) {
            for (int k = 0; k < 3; k++) {
                askFrom(x, k);
                Check.is("how", x.journal(0, 2), round == 0 ? 2 : 3);
            }
        }
        Check.row("three, once each", figures(x), 12, 9, 3);
        Check.row("counts", Check.counts(x, 21), 12, 12, 9, 0);
    }

    private static void violations() {
        Check.sentence("1 whether its answer is a VIOLATION (3) or not (0), 2, 3, 4 tag, next, owner that the rule tells (0 of a VIOLATION");
        WardEngine x = Check.ready("mark:tag=5;next=6;owner=7;need n;", "mark n 1;mark;");
        Check.is("run", x.run(2), 1);
        Check.row("one that is allowed", new int[] {x.cacheOf(0, 1), x.cacheOf(0, 2), x.cacheOf(0, 3), x.cacheOf(0, 4), x.cacheOf(0, 20)}, 0, 5, 6, 7, 1);
        Check.row("a violation", new int[] {x.cacheOf(1, 0), x.cacheOf(1, 1), x.cacheOf(1, 2), x.cacheOf(1, 3), x.cacheOf(1, 4),
            x.cacheOf(1, 20)}, 21, 3, 0, 0, 0, 0);
        Check.row("its question counts", figures(x), 2, 0, 2);
    }

    private static void oldParts() {
        Check.sentence("(a VIOLATION, too, and what first and second gave then)");
        WardEngine x = Check.ready("mark:tag=first(1000000);next=second(1000000);owner=n;add:tag=pair(7,8);jump:",
                "mark a 1;add a 2;mark a 3;mark a 4 n 1;");
        Check.is("run", x.run(4), 4);
        Check.row("then", new int[] {x.registerOf(1, 1), x.journal(3, 4), x.journal(3, 2)}, 1000000, 0, 2);
        Check.row("a hit", new int[] {x.registerOf(3, 1), x.journal(1, 4), x.journal(1, 2)}, 1000000, 0, 3);
        Check.row("another question", new int[] {x.registerOf(4, 1), x.journal(0, 4), x.journal(0, 2)}, 7, 8, 2);
    }

    private static void untoldOfHits() {
        Check.sentence("tag, next, owner that the rule tells (0 of a VIOLATION, and where it tells none)");
        WardEngine x = Check.ready("mark:store:tag=1;", "mark a 1;mark a 2;store n 4;store n 5;register 1 0 tag 11;register 2 0 tag 12;"
                + "word 4 0 owner 21;word 5 0 owner 22;register 8 0 tag 30;");
        x.run(1);
        x.register(8, 1, 31);
        x.run(2);
        x.register(8, 3, 32);
        x.run(1);
        Check.row("of mark", new int[] {x.cacheOf(0, 1), x.cacheOf(0, 2), x.cacheOf(0, 3), x.cacheOf(0, 4)}, 0, 0, 0, 0);
        Check.row("of store", new int[] {x.cacheOf(1, 1), x.cacheOf(1, 2), x.cacheOf(1, 3), x.cacheOf(1, 4)}, 0, 1, 0, 0);
        Check.row("hits take their own", Check.entry(x, 2), 1, 21, 3, 12, 31, 0);
        Check.row("hits take their own", Check.entry(x, 0), 3, 12, 3, 1, 32, 0);
        Check.row("owners", new int[] {x.wordOf(4, 2), x.wordOf(5, 2)}, 21, 22);
    }

    private static void whoAsksNone() {
        Check.sentence("Instructions that are WRONG by p or without a rule ask none.");
        WardEngine place = Check.ready("halt:", "register 8 -1;");
        place.run(1);
        Check.row("by p", figures(place), 0, 0, 0);
        WardEngine rule = Check.ready("halt:", "mark;");
        rule.run(1);
        Check.row("without a rule", figures(rule), 0, 0, 0);
        WardEngine kind = Check.ruled("halt:");
        kind.code(0, 31, 0);
        kind.run(1);
        Check.row("without a kind", figures(kind), 0, 0, 0);
        WardEngine word = Check.ready("load:", "load n 96;");
        word.run(1);
        Check.row("wrong by its word, it asks", figures(word), 1, 0, 1);
        WardEngine make = Check.ready("make:", "make;");
        make.run(1);
        Check.row("without room, it asks", figures(make), 1, 0, 1);
    }

    private static void staysThroughAll() {
        Check.sentence("It stays through all, until begin() or a new policy.");
        WardEngine x = Check.ready("mark:tag=n;in:", "mark n 1;in;");
        x.run(2);
        x.code(0, 21, 5);
        x.word(0, 1, 2, 3);
        x.register(1, 2, 3);
        x.input(1, 1);
        x.keep();
        x.differ(21, 3);
        Check.is("a faulty policy", Check.policy(x, "mark"), 4);
        Check.is("a faulty image", Check.image(x, "mark"), 4);
        x.twin();
        x.swap();
        x.swap();
        Check.row("it stays", figures(x), 2, 0, 2);
        x.code(3, Check.code(21, 0, 0, 0, 1), 0);
        x.register(8, 3, 0);
        x.run(1);
        Check.row("a hit", figures(x), 3, 1, 2);
    }

    private static void untilBeginOrPolicy() {
        Check.sentence("until begin() or a new policy");
        for (int way = 0; way < 3; way++) {
            WardEngine x = asking(12);
            x.run(12);
            Check.row("before", figures(x), 12, 0, 8);
            if (way == 0) {
                x.begin(0);
            } else if (way == 1) {
                Check.is("the same policy anew", x.policy(), WardEngine.NONE);
            } else {
                Check.is("an image", Check.image(x, ""), WardEngine.NONE);
            }
            Check.row("empty", figures(x), 0, 0, 0);
            Check.outside("cacheOf(0, 0)", () -> x.cacheOf(0, 0));
            x.code(4, Check.code(21, 1, 0, 0, 4), 0);
            askFrom(x, 4);
            Check.row("asked anew", figures(x), 1, 0, 1);
            Check.is("the first", x.cacheOf(0, 20), 4);
        }
    }

    private static void answers() {
        Check.sentence("2, 3, 4 tag, next, owner that the rule tells");
        WardEngine x = Check.ready("mark:tag=va;next=-1;owner=va-1;", "mark;");
        x.register(0, LEAST, 0);
        x.run(1);
        Check.row("answers", new int[] {x.cacheOf(0, 0), x.cacheOf(0, 1), x.cacheOf(0, 2), x.cacheOf(0, 3), x.cacheOf(0, 4)}, 21, 0, LEAST, -1, MOST);
        Check.is("va", x.cacheOf(0, 14), LEAST);
    }

    private static void wrongCalls() {
        Check.sentence("cacheOf: IndexOutOfBoundsException if there aren't so many; IllegalArgumentException for another what");
        WardEngine x = asking(9);
        for (int i : new int[] {-1, 0, 1, LEAST, MOST}) {
            Check.outside("cacheOf(" + i + ", 0) of none", () -> x.cacheOf(i, 0));
        }
        for (int run = 1; run <= 9; run += 4) {
            x.run(run == 1 ? 1 : 4);
            int kept = Math.min(run, 8);
            for (int i : new int[] {-1, kept, 9, LEAST, MOST}) {
                Check.outside("cacheOf(" + i + ", 0) of " + kept, () -> x.cacheOf(i, 0));
                Check.outside("the question goes first", () -> x.cacheOf(i, 5));
            }
            for (int what : new int[] {-1, 5, 6, 7, 8, 9, 25, LEAST, MOST}) {
                Check.illegal("cacheOf(0, " + what + ")", () -> x.cacheOf(0, what));
                Check.illegal("cacheOf(" + (kept - 1) + ", " + what + ")", () -> x.cacheOf(kept - 1, what));
            }
            Check.is("the last name", x.cacheOf(0, 24), 0);
            Check.is("the kind", x.cacheOf(kept - 1, 0), 21);
        }
    }
}
