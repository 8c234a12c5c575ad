import java.util.Arrays;
import java.util.function.IntSupplier;

/** What all tests of the project share: texts, answers that are due, and the count of wrong ones. */
final class Check {
    private static int wrong = 0;
    private static int asked = 0;
    private static String sentence = "";

    private Check() {
    }

    /** The document's sentence that the answers from here on are asked for; a wrong one is told with it. */
    static void sentence(String words) {
        sentence = " [" + words + "]";
    }

    private static void tellWrong(String what) {
        wrong++;
        System.out.println(what + sentence);
    }

    static void is(String what, long got, long due) {
        asked++;
        if (got != due) {
            tellWrong(what + " answered " + got + ", due is " + due);
        }
    }

    /** Several answers at once, in their order. */
    static void row(String what, int[] got, int... due) {
        same(what, Arrays.toString(got), Arrays.toString(due));
    }

    static void fails(String what, Class<? extends RuntimeException> due, Runnable call) {
        asked++;
        Class<?> got = null;
        try {
            call.run();
        } catch (RuntimeException e) {
            got = e.getClass();
        }
        if (got != due) {
            tellWrong(what + " threw " + got + ", due is " + due);
        }
    }

    static void outside(String what, Runnable call) {
        fails(what, IndexOutOfBoundsException.class, call);
    }

    static void illegal(String what, Runnable call) {
        fails(what, IllegalArgumentException.class, call);
    }

    static void badState(String what, Runnable call) {
        fails(what, IllegalStateException.class, call);
    }

    static void full(String what, Runnable call) {
        fails(what, UnsupportedOperationException.class, call);
    }

    /** The text of the engine becomes this one. */
    static void text(WardEngine x, String text) {
        x.end(0);
        for (int i = 0; i < text.length(); i += 4) {
            int signs = 0;
            for (int k = 0; k < 4 && i + k < text.length(); k++) {
                signs |= text.charAt(i + k) << (8 * k);
            }
            x.put(signs);
        }
    }

    static int policy(WardEngine x, String text) {
        text(x, text);
        return x.policy();
    }

    static int image(WardEngine x, String text) {
        text(x, text);
        return x.image();
    }

    /** The answer of a read that must go well; a policy or an image without a fault, say. */
    static void good(String what, IntSupplier call) {
        is(what, call.getAsInt(), WardEngine.NONE);
    }

    static String listing(WardEngine x, int k) {
        StringBuilder all = new StringBuilder();
        for (int i = 0; x.listing(k, i) != WardEngine.NONE; i++) {
            all.append((char) x.listing(k, i));
        }
        return all.toString();
    }

    static void same(String what, String got, String due) {
        asked++;
        if (!got.equals(due)) {
            tellWrong(what + " answered '" + got + "', due is '" + due + "'");
        }
    }

    /** A new object with this policy, which has no fault. */
    static WardEngine ruled(String policy) {
        WardEngine x = new WardEngine();
        is("policy " + policy, policy(x, policy), WardEngine.NONE);
        return x;
    }

    /** A new object with this policy and this image, which have no fault. */
    static WardEngine ready(String policy, String image) {
        WardEngine x = ruled(policy);
        is("image " + image, image(x, image), WardEngine.NONE);
        return x;
    }

    /** The fault of a policy is where the @ stands, which is no part of the text. */
    static void policyFault(String marked) {
        is("policy " + marked, policy(new WardEngine(), unmarked(marked)), marked.indexOf('@'));
    }

    static void goodPolicy(String text) {
        is("policy " + text, policy(new WardEngine(), text), WardEngine.NONE);
    }

    /** The fault of an image is where the @ stands, which is no part of the text. */
    static void imageFault(String marked) {
        is("image " + marked, image(new WardEngine(), unmarked(marked)), marked.indexOf('@'));
    }

    static WardEngine goodImage(String text) {
        WardEngine x = new WardEngine();
        is("image " + text, image(x, text), WardEngine.NONE);
        return x;
    }

    private static String unmarked(String marked) {
        int place = marked.indexOf('@');
        return marked.substring(0, place) + marked.substring(place + 1);
    }

    /** An instruction's code. */
    static int code(int kind, int a, int b, int c, int n) {
        return kind | a << 5 | b << 8 | c << 11 | n << 16;
    }

    static int[] register(WardEngine x, int r) {
        return new int[] {x.registerOf(r, 0), x.registerOf(r, 1)};
    }

    static int[] word(WardEngine x, int k) {
        return new int[] {x.wordOf(k, 0), x.wordOf(k, 1), x.wordOf(k, 2)};
    }

    /** An entry of the journal: place, kind, how its rule was asked, TAG, NEXT, how it ended. */
    static int[] entry(WardEngine x, int i) {
        int[] all = new int[6];
        for (int what = 0; what < all.length; what++) {
            all[what] = x.journal(i, what);
        }
        return all;
    }

    /** A kind's counts: done, questions, hits, not done. */
    static int[] counts(WardEngine x, int kind) {
        return new int[] {x.count(kind, 0), x.count(kind, 1), x.count(kind, 2), x.count(kind, 3)};
    }

    static void end(String test) {
        System.out.println(test + ": " + asked + " answers, " + wrong + " wrong");
        if (wrong != 0) {
            System.exit(1);
        }
    }
}
