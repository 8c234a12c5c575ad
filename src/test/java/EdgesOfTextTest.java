/** The edges that promises 1 to 3 name: a new object, put, end. */
public final class EdgesOfTextTest {
    private static final int LEAST = Integer.MIN_VALUE;
    private static final int MOST = Integer.MAX_VALUE;

    public static void main(String[] args) {
        asBehindBegin();
        allIsZero();
        hiddenParts();
        noRulesAndNoText();
        lowestByteFirst();
        zeroIsLeftOut();
        everyByte();
        moreThanNineHundred();
        theBadByteGoesFirst();
        firstSigns();
        belowAndAbove();
        Check.end("EdgesOfTextTest");
    }

    private static void asBehindBegin() {
        Check.sentence("WardEngine(): As behind begin(0)");
        WardEngine x = new WardEngine();
        for (int what = 0; what < 10; what++) {
            Check.is("state(" + what + ")", x.state(what), 0);
        }
        for (int r = 0; r <= 8; r++) {
            Check.row("register " + r, Check.register(x, r), 0, 0);
        }
        for (int kind = 0; kind < 22; kind++) {
            Check.row("counts of " + kind, Check.counts(x, kind), 0, 0, 0, 0);
        }
        Check.is("blame", x.blame(), WardEngine.NONE);
        Check.outside("output(0)", () -> x.output(0));
        Check.outside("pairOf(0, 0)", () -> x.pairOf(0, 0));
        Check.outside("journal(0, 0)", () -> x.journal(0, 0));
        Check.outside("cacheOf(0, 0)", () -> x.cacheOf(0, 0));
        for (int what = 0; what < 4; what++) {
            Check.is("unlike(" + what + ")", x.unlike(what), WardEngine.NONE);
        }
        x.swap();
        for (int what = 0; what < 10; what++) {
            Check.is("state(" + what + ") of the other machine", x.state(what), 0);
        }
        Check.is("blame of the other machine", x.blame(), WardEngine.NONE);
    }

    private static void allIsZero() {
        Check.sentence("All is 0 at first.");
        WardEngine x = new WardEngine();
        for (int k = 0; k < 96; k++) {
            Check.row("word " + k, Check.word(x, k), 0, 0, 0);
        }
        WardEngine y = new WardEngine();
        for (int k = 0; k < 64; k++) {
            Check.is("code " + k, y.codeOf(k, 0), 0);
            Check.is("tag of code " + k, y.codeOf(k, 1), 0);
        }
    }

    private static void hiddenParts() {
        Check.sentence("-1 if none was); clear (told with begin()); fresh (how many makes were done + 2)");
        WardEngine x = Check.ruled("halt:tag=before;next=clear;owner=fresh;");
        Check.is("halt", x.run(1), 1);
        Check.is("before", x.cacheOf(0, 22), -1);
        Check.is("clear", x.cacheOf(0, 23), 0);
        Check.is("fresh", x.cacheOf(0, 24), 2);
        x.swap();
        Check.is("halt of the other machine", x.run(1), 1);
        Check.is("before of the other machine", x.cacheOf(0, 22), -1);
        Check.is("clear of the other machine", x.cacheOf(0, 23), 0);
        Check.is("fresh of the other machine", x.cacheOf(0, 24), 2);
    }

    private static void noRulesAndNoText() {
        Check.sentence("with a policy of no rules, an empty text");
        WardEngine x = new WardEngine();
        for (int kind = 0; kind < 22; kind++) {
            int k = kind;
            Check.is("names(" + kind + ")", x.names(kind), WardEngine.NONE);
            Check.badState("differ(" + kind + ", 1)", () -> x.differ(k, 1));
        }
        Check.badState("witness(0)", () -> x.witness(0));
        Check.is("put(0)", x.put(0), 0);
        Check.illegal("end(1)", () -> x.end(1));
        x.end(0);
        Check.is("policy of an empty text", x.policy(), WardEngine.NONE);
        Check.is("image of an empty text", x.image(), WardEngine.NONE);
        Check.is("run", x.run(1), 0);
        Check.is("no rule", x.state(0), 2);
    }

    private static int signs(int first, int second, int third, int fourth) {
        return first | second << 8 | third << 16 | fourth << 24;
    }

    private static void lowestByteFirst() {
        Check.sentence("put: Four more signs of the text, the lowest byte first");
        WardEngine x = new WardEngine();
        Check.is("four", x.put(signs('m', 'a', 'r', 'k')), 4);
        Check.is("four more", x.put(signs(':', 't', 'a', 'g')), 8);
        Check.is("and four", x.put(signs('=', 'n', ';', '\n')), 12);
        Check.is("policy", x.policy(), WardEngine.NONE);
        Check.is("names of mark", x.names(21), 1 << 10);
    }

    private static void zeroIsLeftOut() {
        Check.sentence("put: (0 is left out): how many there are");
        int[] rows = {signs(0, 'g', 'o', ':'), signs('g', 0, 'o', ':'), signs('g', 'o', 0, ':'), signs('g', 'o', ':', 0)};
        for (int row : rows) {
            WardEngine x = new WardEngine();
            Check.is("three", x.put(row), 3);
            Check.is("policy", x.policy(), WardEngine.NONE);
            Check.is("names of go", x.names(15), 0);
        }
        WardEngine x = new WardEngine();
        int count = 0;
        for (int mask = 0; mask < 16; mask++) {
            int row = signs(mask & 1, mask >> 1 & 1, mask >> 2 & 1, mask >> 3) * ' ';
            count += Integer.bitCount(mask);
            Check.is("put(" + row + ")", x.put(row), count);
        }
    }

    private static void everyByte() {
        Check.sentence("put: IllegalArgumentException if a byte is none of those (32 .. 126 and 10)");
        for (int shift = 0; shift < 32; shift += 8) {
            WardEngine x = new WardEngine();
            int count = 0;
            for (int b = 0; b < 256; b++) {
                int row = b << shift;
                if (b == 0 || b == 10 || b >= 32 && b <= 126) {
                    count += b == 0 ? 0 : 1;
                    Check.is("put(" + row + ")", x.put(row), count);
                } else {
                    Check.illegal("put(" + row + ")", () -> x.put(row));
                }
            }
            Check.is("signs that came", x.put(0), 96);
        }
        WardEngine x = new WardEngine();
        Check.illegal("put(-1)", () -> x.put(-1));
        Check.illegal("put(least)", () -> x.put(LEAST));
        Check.illegal("put(most)", () -> x.put(MOST));
        Check.illegal("a bad one behind good ones", () -> x.put(signs('a', 'b', 'c', 9)));
        Check.illegal("a bad one ahead of good ones", () -> x.put(signs(127, 'b', 'c', 'd')));
        Check.illegal("a bad one among zeros", () -> x.put(signs(0, 0, 31, 0)));
        Check.is("nothing came", x.put(0), 0);
        Check.is("four of the greatest", x.put(signs(126, 126, 126, 126)), 4);
        Check.is("four of the least", x.put(signs(10, 10, 10, 10)), 8);
    }

    /** So many blanks. */
    private static WardEngine filled(int count) {
        WardEngine x = new WardEngine();
        Check.text(x, " ".repeat(count));
        Check.is("filled", x.put(0), count);
        return x;
    }

    private static void moreThanNineHundred() {
        Check.sentence("put: UnsupportedOperationException if there would be more than 900");
        int four = signs(' ', ' ', ' ', ' ');
        Check.is("896 and four", filled(896).put(four), 900);
        for (int count = 897; count <= 900; count++) {
            WardEngine x = filled(count);
            Check.full(count + " and four", () -> x.put(four));
            Check.is("nothing came", x.put(0), count);
        }
        WardEngine x = filled(897);
        Check.is("897 and three", x.put(signs(' ', 0, ' ', ' ')), 900);
        Check.full("one more", () -> x.put(signs(0, 0, 0, '\n')));
        Check.is("none more", x.put(0), 900);
        x.end(899);
        Check.full("two more", () -> x.put(signs(0, ' ', ' ', 0)));
        Check.is("room again for one", x.put(signs(0, 0, ' ', 0)), 900);
        Check.is("a policy of 900 signs", x.policy(), WardEngine.NONE);
        Check.is("an image of 900 signs", x.image(), WardEngine.NONE);
    }

    private static void theBadByteGoesFirst() {
        Check.sentence("of several exceptions that one goes which the call names first");
        WardEngine x = filled(900);
        Check.illegal("a bad byte of a full text", () -> x.put(signs(' ', ' ', ' ', 1)));
        Check.illegal("a bad byte alone", () -> x.put(200));
        Check.full("good ones", () -> x.put(signs(' ', ' ', ' ', ' ')));
        Check.is("nothing came", x.put(0), 900);
    }

    private static void firstSigns() {
        Check.sentence("end: The text has its first n signs.");
        WardEngine x = new WardEngine();
        Check.text(x, "go:halt:");
        x.end(8);
        Check.is("all", x.put(0), 8);
        Check.is("both rules", x.policy(), WardEngine.NONE);
        Check.is("names of halt", x.names(0), 0);
        x.end(7);
        Check.is("without the last sign", x.policy(), 7);
        x.end(3);
        Check.is("three", x.put(0), 3);
        Check.is("one rule", x.policy(), WardEngine.NONE);
        Check.is("names of go", x.names(15), 0);
        Check.is("names of halt", x.names(0), WardEngine.NONE);
        Check.is("others come behind it", x.put(signs('o', 'r', ':', 0)), 6);
        Check.is("the policy", x.policy(), WardEngine.NONE);
        Check.is("names of or", x.names(7), 0);
        x.end(1);
        Check.is("a word of one letter", x.policy(), 0);
        x.end(0);
        Check.is("no sign", x.put(0), 0);
        Check.is("no rule", x.policy(), WardEngine.NONE);
        Check.is("names of go", x.names(15), WardEngine.NONE);
        signsBehindTheEnd();
    }

    /** A token ends with the text, whatever stood behind it before. */
    private static void signsBehindTheEnd() {
        String[] texts = {"add:tag==", "add:need a<=b;", "add:need a!=b;", "add:tag=12345678;", "adds:", "add:tag=pcs;", "add:# x\n>"};
        int[] ends = {8, 11, 11, 15, 3, 10, 7};
        int[] due = {8, 11, 10, 15, 3, 10, WardEngine.NONE};
        for (int k = 0; k < texts.length; k++) {
            WardEngine x = new WardEngine();
            Check.text(x, texts[k]);
            x.end(ends[k]);
            Check.is("the first " + ends[k] + " of " + texts[k], x.policy(), due[k]);
        }
        WardEngine x = new WardEngine();
        Check.text(x, "halt;word 1 23;");
        x.end(13);
        Check.is("the first signs of a number", x.image(), 13);
        Check.is("and its line's end", x.put(';'), 14);
        Check.is("image", x.image(), WardEngine.NONE);
        Check.is("the word", x.wordOf(1, 0), 2);
    }

    private static void belowAndAbove() {
        Check.sentence("end: IllegalArgumentException if n is below 0 or above how many there are");
        for (int count : new int[] {0, 1, 5, 900}) {
            WardEngine x = filled(count);
            for (int n : new int[] {-1, LEAST, count + 1, MOST}) {
                Check.illegal("end(" + n + ") of " + count, () -> x.end(n));
                Check.is("all stay", x.put(0), count);
            }
            x.end(count);
            Check.is("end(" + count + ")", x.put(0), count);
            if (count > 0) {
                x.end(count - 1);
                Check.illegal("one that is gone", () -> x.end(count));
                Check.is("one less", x.put(0), count - 1);
            }
        }
    }
}
