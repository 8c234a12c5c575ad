/** Promises 1 to 3: a new object, put, end. */
public final class TextTest {
    public static void main(String[] args) {
        newObject();
        put();
        end();
        Check.end("TextTest");
    }

    private static void newObject() {
        WardEngine x = new WardEngine();
        Check.is("put(0) of a new object", x.put(0), 0);
        for (int what = 0; what < 10; what++) {
            Check.is("state(" + what + ") of a new object", x.state(what), 0);
        }
        for (int kind = 0; kind < 22; kind++) {
            Check.is("names(" + kind + ") of a new object", x.names(kind), WardEngine.NONE);
        }
        for (int r = 0; r <= 8; r++) {
            Check.is("register", x.registerOf(r, 0), 0);
            Check.is("register's tag", x.registerOf(r, 1), 0);
        }
        Check.is("blame", x.blame(), WardEngine.NONE);
        Check.is("both machines' code", x.unlike(0), WardEngine.NONE);
        Check.is("run without a rule", x.run(1), 0);
        Check.is("state without a rule", x.state(0), 2);
    }

    private static void put() {
        WardEngine x = new WardEngine();
        Check.is("put of four", x.put('h' | 'a' << 8 | 'l' << 16 | 't' << 24), 4);
        Check.is("put with gaps", x.put(':' << 16), 5);
        Check.is("policy of put text", x.policy(), WardEngine.NONE);
        Check.is("names(0)", x.names(0), 0);
        int[] bad = {1, 9, 11, 13, 31, 127, 128, 200, 255};
        for (int sign : bad) {
            for (int shift = 0; shift < 32; shift += 8) {
                int signs = sign << shift;
                Check.illegal("put of byte " + sign, () -> x.put(signs));
                Check.illegal("put of byte " + sign + " among others", () -> x.put(0x61616161 & ~(255 << 8) | sign << 8));
            }
        }
        Check.is("nothing was put", x.put(0), 5);
        Check.is("line end and both ends of signs", x.put(10 | 32 << 8 | 126 << 16), 8);
        for (int k = 8; k < 896; k += 4) {
            x.put(0x20202020);
        }
        Check.is("three more", x.put(0x202020), 899);
        Check.full("two more", () -> x.put(0x2020));
        Check.illegal("bad byte goes first", () -> x.put(0x2001));
        Check.is("nothing was put", x.put(0), 899);
        Check.is("the last one", x.put(32 << 24), 900);
        Check.full("one more", () -> x.put(32));
        Check.is("none more", x.put(0), 900);
    }

    private static void end() {
        WardEngine x = new WardEngine();
        Check.text(x, "halt:move:");
        Check.illegal("end(-1)", () -> x.end(-1));
        Check.illegal("end(11)", () -> x.end(11));
        Check.illegal("end(least)", () -> x.end(Integer.MIN_VALUE));
        x.end(10);
        Check.is("all stay", x.put(0), 10);
        x.end(5);
        Check.is("five stay", x.put(0), 5);
        Check.illegal("end(6)", () -> x.end(6));
        x.policy();
        Check.is("halt has a rule", x.names(0), 0);
        Check.is("move has none", x.names(2), WardEngine.NONE);
        x.put('m' | 'a' << 8 | 'r' << 16 | 'k' << 24);
        Check.is("a text that goes on behind its end", x.policy(), 9);
        x.end(0);
        Check.is("no sign", x.put(0), 0);
    }
}
