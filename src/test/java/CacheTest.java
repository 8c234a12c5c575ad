/** Promise 23, and the questions and hits of promises 14 and 22: section 3. */
public final class CacheTest {
    public static void main(String[] args) {
        questions();
        eightAreKept();
        violationsAreKept();
        staleParts();
        untoldOfHits();
        notAsked();
        wrongCalls();
        Check.end("CacheTest");
    }

    private static void mark(WardEngine x, int place, int a, int n) {
        x.code(place, Check.code(21, a, 0, 0, n), 0);
    }

    private static void questions() {
        WardEngine x = new WardEngine();
        Check.policy(x, "mark:tag=n;next=pc;owner=0?a:7;move:tag=n;");
        x.begin(3);
        x.register(1, 4, 5);
        x.register(8, 0, 6);
        mark(x, 0, 1, 9);
        mark(x, 1, 2, 9);
        mark(x, 2, 2, 9);
        x.code(3, Check.code(2, 1, 0, 0, 9), 0);
        x.run(4);
        Check.is("questions", x.state(3), 4);
        // Tags of the registers 1 and 2 differ at first; 2 has got tag 9 when it is asked for again.
        Check.is("hits", x.state(4), 0);
        Check.is("kept", x.state(8), 4);
        Check.is("kind", x.cacheOf(0, 0), 21);
        Check.is("allowed", x.cacheOf(0, 1), 0);
        Check.is("tag", x.cacheOf(0, 2), 9);
        Check.is("next", x.cacheOf(0, 3), 6);
        Check.is("owner", x.cacheOf(0, 4), 7);
        int[] due = {6, 5, 0, 0, 0, 0, 0, 0, 0, 0, 9, 0, 0, 0, 0};
        for (int k = 0; k < 15; k++) {
            Check.is("name " + k, x.cacheOf(0, 10 + k), due[k]);
        }
        Check.is("another kind is another question", x.cacheOf(3, 0), 2);
        Check.is("next that isn't told", x.cacheOf(3, 3), 0);
        Check.is("pc that isn't named", x.cacheOf(3, 10), 0);
        Check.is("questions of a kind", x.count(21, 1), 3);
        x.register(8, 0, 6);
        x.register(1, 0, 5);
        x.run(1);
        Check.is("the same again", x.state(4), 1);
        Check.is("hits of a kind", x.count(21, 2), 1);
        Check.is("a hit is a question, too", x.count(21, 1), 4);
        Check.is("a hit is not kept again", x.state(8), 4);
    }

    private static void eightAreKept() {
        WardEngine x = new WardEngine();
        Check.policy(x, "mark:tag=n;");
        for (int k = 0; k < 10; k++) {
            mark(x, k, 0, k);
        }
        x.run(8);
        Check.is("eight", x.state(8), 8);
        x.register(8, 0, 0);
        x.run(1);
        Check.is("the first is in it", x.state(4), 1);
        Check.is("and stays the first", x.cacheOf(0, 20), 0);
        x.register(8, 7, 0);
        x.run(1);
        Check.is("the last is in it", x.state(4), 2);
        Check.is("its answer", x.registerOf(0, 1), 7);
        x.register(8, 8, 0);
        x.run(1);
        Check.is("eight", x.state(8), 8);
        Check.is("the one that came first goes, hit or not", x.cacheOf(0, 20), 1);
        Check.is("the last", x.cacheOf(7, 20), 8);
        x.register(8, 0, 0);
        x.run(1);
        Check.is("it is not in it any more", x.state(4), 2);
        Check.is("and comes behind", x.cacheOf(7, 20), 0);
        Check.is("the first now", x.cacheOf(0, 20), 2);
        Check.outside("cacheOf(8, 0)", () -> x.cacheOf(8, 0));
        x.begin(0);
        Check.is("begin empties it", x.state(8), 0);
        Check.outside("cacheOf(0, 0)", () -> x.cacheOf(0, 0));
    }

    private static void violationsAreKept() {
        WardEngine x = new WardEngine();
        Check.policy(x, "mark:tag=5;next=6;owner=7;need n<3;need n<2;");
        mark(x, 0, 0, 2);
        x.run(1);
        Check.is("a violation", x.cacheOf(0, 1), 3);
        Check.is("no tag", x.cacheOf(0, 2), 0);
        Check.is("no next", x.cacheOf(0, 3), 0);
        Check.is("no owner", x.cacheOf(0, 4), 0);
        Check.is("its name", x.cacheOf(0, 20), 2);
        int place = "mark:tag=5;next=6;owner=7;need n<3;".length();
        Check.is("blame", x.blame(), place);
        // in waits with its question kept, so that the same question comes once more as a hit.
        WardEngine y = new WardEngine();
        Check.policy(y, "in:tag=3;need 1;mark:need n<3;");
        y.code(0, Check.code(18, 1, 0, 0, 0), 0);
        y.run(1);
        y.run(1);
        Check.is("a hit", y.journal(0, 2), 3);
        Check.is("waits", y.journal(0, 5), 5);
        y.input(1, 1);
        y.run(1);
        Check.is("a hit", y.journal(0, 2), 3);
        Check.is("by the kept answer", y.registerOf(1, 1), 3);
    }

    private static void staleParts() {
        WardEngine x = new WardEngine();
        Check.policy(x, "mark:tag=first(n+999999);next=second(n+999999);add:tag=pair(7,8);jump:");
        mark(x, 0, 1, 1);
        x.code(1, Check.code(3, 2, 0, 0, 0), 0);
        x.code(2, Check.code(13, 0, 0, 0, 0), 0);
        x.run(3);
        Check.is("no pair then", x.registerOf(1, 1), 1000000);
        Check.is("a pair now", x.state(7), 1);
        x.run(1);
        Check.is("what first gave then", x.registerOf(1, 1), 1000000);
        Check.is("what second gave then", x.registerOf(8, 1), 0);
        Check.is("a hit", x.journal(0, 2), 3);
        x.register(8, 0, 0);
        x.policy();
        x.run(1);
        Check.is("a new policy asks anew", x.registerOf(1, 1), 7);
        Check.is("a new policy asks anew", x.registerOf(8, 1), 8);
    }

    private static void untoldOfHits() {
        WardEngine x = new WardEngine();
        Check.policy(x, "mark:store:tag=1;");
        mark(x, 0, 1, 0);
        mark(x, 1, 2, 0);
        x.code(2, Check.code(12, 1, 0, 0, 4), 0);
        x.code(3, Check.code(12, 1, 0, 0, 5), 0);
        x.register(1, 0, 11);
        x.register(2, 0, 12);
        x.word(4, 0, 0, 21);
        x.word(5, 0, 0, 22);
        x.run(2);
        x.register(8, 2, 31);
        x.run(2);
        Check.is("hits", x.state(4), 2);
        Check.is("the register's own", x.registerOf(2, 1), 12);
        Check.is("the register's own", x.journal(2, 3), 12);
        Check.is("the PC's own", x.registerOf(8, 1), 31);
        Check.is("the word's own", x.wordOf(5, 2), 22);
    }

    private static void notAsked() {
        WardEngine x = new WardEngine();
        Check.policy(x, "mark:tag=base(0);move:need pair(1,1);halt:");
        mark(x, 0, 0, 0);
        x.code(1, 2, 0);
        x.run(3);
        Check.is("only halt has a question", x.state(3), 1);
        Check.is("worked out", x.journal(2, 2), 1);
        Check.is("worked out", x.journal(1, 2), 1);
        Check.is("a question", x.journal(0, 2), 2);
        Check.is("no questions", x.count(21, 1) + x.count(2, 1), 0);
    }

    private static void wrongCalls() {
        WardEngine x = new WardEngine();
        Check.policy(x, "halt:");
        x.run(1);
        for (int i : new int[] {-1, 1, 8, Integer.MAX_VALUE, Integer.MIN_VALUE}) {
            Check.outside("cacheOf(" + i + ", 5)", () -> x.cacheOf(i, 5));
        }
        for (int what : new int[] {-1, 5, 6, 7, 8, 9, 25, Integer.MAX_VALUE, Integer.MIN_VALUE}) {
            Check.illegal("cacheOf(0, " + what + ")", () -> x.cacheOf(0, what));
        }
        for (int what : new int[] {0, 1, 2, 3, 4, 10, 24}) {
            Check.is("cacheOf(0, " + what + ")", x.cacheOf(0, what), 0);
        }
    }
}
