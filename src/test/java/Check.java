import java.util.function.IntSupplier;

/** What all tests of the project share: texts, answers that are due, and the count of wrong ones. */
final class Check {
    private static int wrong = 0;
    private static int asked = 0;

    private Check() {
    }

    static void is(String what, long got, long due) {
        asked++;
        if (got != due) {
            wrong++;
            System.out.println(what + " answered " + got + ", due is " + due);
        }
    }

    static void fails(String what, Class<? extends RuntimeException> due, Runnable call) {
        asked++;
        Class<?> got = null;
        try {
            call.run();
        } catch (RuntimeException e) {
            got = e.getClass();
        }
        if (got != due) {
            wrong++;
            System.out.println(what + " threw " + got + ", due is " + due);
        }
    }

    static void outside(String what, Runnable call) {
        fails(what, IndexOutOfBoundsException.class, call);
    }

    static void illegal(String what, Runnable call) {
        fails(what, IllegalArgumentException.class, call);
    }

    static void badState(String what, Runnable call) {
        fails(what, IllegalStateException.class, call);
    }

    static void full(String what, Runnable call) {
        fails(what, UnsupportedOperationException.class, call);
    }

    /** The text of the engine becomes this one. */
    static void text(WardEngine x, String text) {
        x.end(0);
        for (int i = 0; i < text.length(); i += 4) {
            int signs = 0;
            for (int k = 0; k < 4 && i + k < text.length(); k++) {
                signs |= text.charAt(i + k) << (8 * k);
            }
            x.put(signs);
        }
    }

    static int policy(WardEngine x, String text) {
        text(x, text);
        return x.policy();
    }

    static int image(WardEngine x, String text) {
        text(x, text);
        return x.image();
    }

    /** The answer of a read that must go well; a policy or an image without a fault, say. */
    static void good(String what, IntSupplier call) {
        is(what, call.getAsInt(), WardEngine.NONE);
    }

    static String listing(WardEngine x, int k) {
        StringBuilder all = new StringBuilder();
        for (int i = 0; x.listing(k, i) != WardEngine.NONE; i++) {
            all.append((char) x.listing(k, i));
        }
        return all.toString();
    }

    static void same(String what, String got, String due) {
        asked++;
        if (!got.equals(due)) {
            wrong++;
            System.out.println(what + " answered '" + got + "', due is '" + due + "'");
        }
    }

    /** An instruction's code. */
    static int code(int kind, int a, int b, int c, int n) {
        return kind | a << 5 | b << 8 | c << 11 | n << 16;
    }

    static void end(String test) {
        System.out.println(test + ": " + asked + " answers, " + wrong + " wrong");
        if (wrong != 0) {
            System.exit(1);
        }
    }
}
