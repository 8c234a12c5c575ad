/** The edges of section 4 and of promises 5 and 6: image and listing. */
public final class EdgesOfImageTest {
    private static final int LEAST = Integer.MIN_VALUE;
    private static final int MOST = Integer.MAX_VALUE;

    public static void main(String[] args) {
        noneOrSome();
        noneIsEmpty();
        firstPerhapsClear();
        at();
        nextInstruction();
        noPlaceLeft();
        fieldsOnce();
        fieldNumbers();
        words();
        registers();
        inputs();
        seventeenthInput();
        minus();
        whatIsNotTold();
        laterLines();
        beyond();
        eightDigits();
        tokens();
        wordsThatCannotCome();
        theEnd();
        asBehindBegin();
        itsFault();
        imageAfterAFault();
        theOtherMachine();
        longest();
        listingWords();
        listingParts();
        listingSigns();
        wrongListing();
        Check.end("EdgesOfImageTest");
    }

    private static void noneOrSome() {
        Check.sentence("an IMAGE: LINES, none or some, each up to its ;");
        Check.goodImage("");
        Check.goodImage(" \n # halt;");
        Check.goodImage("halt;");
        Check.goodImage("halt;halt;");
        Check.imageFault("halt@");
        Check.imageFault("halt;halt@");
        Check.imageFault("halt @mark;");
        Check.imageFault("halt@,mark;");
        Check.imageFault("halt@:");
    }

    private static void noneIsEmpty() {
        Check.sentence("each up to its ; (none is empty)");
        Check.imageFault("@;");
        Check.imageFault("halt;@;");
        Check.imageFault("clear 1;@;");
        Check.imageFault("halt; \n @; halt;");
    }

    /** What the rule of halt takes for clear. */
    private static int clearOf(WardEngine x) {
        Check.policy(x, "halt:next=clear;");
        x.run(1);
        return x.registerOf(8, 1);
    }

    private static void firstPerhapsClear() {
        Check.sentence("First, perhaps, clear NUMBER.");
        Check.is("clear 5", clearOf(Check.goodImage("clear 5;")), 5);
        Check.is("clear - 5", clearOf(Check.goodImage("# \n clear - 5;")), -5);
        Check.is("the most", clearOf(Check.goodImage("clear 9999999;")), 9999999);
        Check.is("the least", clearOf(Check.goodImage("clear -9999999;")), -9999999);
        Check.is("without one", clearOf(Check.goodImage("at 0;")), 0);
        Check.imageFault("clear@;");
        Check.imageFault("clear@");
        Check.imageFault("clear 1@");
        Check.imageFault("clear 1 @2;");
        Check.imageFault("clear -@;");
        Check.imageFault("clear 1 @tag 1;");
        Check.imageFault("clear 1;@clear 1;");
        Check.imageFault("halt;@clear 1;");
        Check.imageFault("at 1;@clear 1;");
        WardEngine x = Check.ruled("halt:");
        x.begin(7);
        Check.image(x, "");
        Check.is("clear 0 without one", clearOf(x), 0);
    }

    private static void at() {
        Check.sentence("at PLACE (0 .. 63): the next instruction comes there (0 at first)");
        WardEngine x = Check.goodImage("mark a 1;at 63;mark a 2;at 0;at 5;mark a 3;mark a 4;at 5;at 62;mark a 5;");
        int[] places = {0, 63, 5, 6, 62};
        for (int k = 0; k < places.length; k++) {
            Check.is("place " + places[k], x.codeOf(places[k], 0), Check.code(21, k + 1, 0, 0, 0));
        }
        Check.goodImage("at 0;");
        Check.goodImage("at 63;");
        Check.imageFault("at @64;");
        Check.imageFault("at @9999999;");
        Check.imageFault("at @-1;");
        Check.imageFault("at @-0;");
        Check.imageFault("at@;");
        Check.imageFault("at @halt;");
        Check.imageFault("at 1@");
        Check.imageFault("at 1 @1;");
        Check.imageFault("at 1 @tag 1;");
    }

    private static void nextInstruction() {
        Check.sentence("an instruction, the next one comes one place later");
        WardEngine x = Check.goodImage("mark a 1;word 0 0;mark a 2;register 0 0;input 0;mark a 3;");
        for (int k = 0; k < 3; k++) {
            Check.is("place " + k, x.codeOf(k, 0), Check.code(21, k + 1, 0, 0, 0));
        }
    }

    private static void noPlaceLeft() {
        Check.sentence("(there must be a place: the kind's word is the fault otherwise)");
        WardEngine x = Check.goodImage("halt;".repeat(63) + "mark;");
        Check.is("the 64th", x.codeOf(63, 0), 21);
        Check.imageFault("halt;".repeat(64) + "@halt;");
        Check.imageFault("at 63;halt;@mark");
        Check.imageFault("at 63;halt;word 1 1;input 1;@mark a 9;");
        Check.imageFault("at 62;halt;halt;@halt >");
        WardEngine y = Check.goodImage("at 63;halt;at 63;mark;at 1;go;");
        Check.row("at gives places again", new int[] {y.codeOf(63, 0), y.codeOf(1, 0)}, 21, 15);
        Check.goodImage("at 63;halt;word 1 1;");
    }

    private static void fieldsOnce() {
        Check.sentence("KIND and, in any order, each once at most, a NUMBER, b NUMBER, c NUMBER (0 .. 7), n NUMBER, tag NUMBER");
        String[] fields = {"a 1", "b 2", "c 3", "n 4", "tag 5"};
        for (String one : fields) {
            String name = one.substring(0, one.indexOf(' '));
            Check.goodImage("add " + one + ";");
            Check.imageFault("add " + one + " @" + one + ";");
            Check.imageFault("add " + one + " @" + name + ";");
            Check.imageFault("add " + name + "@;");
            Check.imageFault("add " + name + "@");
            Check.imageFault("add " + name + " @" + name + ";");
            for (String two : fields) {
                if (!one.equals(two)) {
                    Check.goodImage("add " + one + " " + two + ";");
                    Check.imageFault("add " + one + " " + two + " @" + one + ";");
                }
            }
        }
        WardEngine x = Check.goodImage("add a 1 b 2 c 3 n 4 tag 5;add tag 5 n 4 c 3 b 2 a 1;add c 3 a 1 tag 5 b 2 n 4;");
        for (int k = 0; k < 3; k++) {
            Check.row("in any order", new int[] {x.codeOf(k, 0), x.codeOf(k, 1)}, Check.code(3, 1, 2, 3, 4), 5);
        }
        Check.imageFault("add a 1 b 2 c 3 n 4 tag 5 @a 1;");
    }

    private static void fieldNumbers() {
        Check.sentence("a NUMBER, b NUMBER, c NUMBER (0 .. 7), n NUMBER (-32768 .. 32767)");
        int[] shifts = {5, 8, 11};
        for (int k = 0; k < 3; k++) {
            String name = " " + "abc".charAt(k) + " ";
            WardEngine x = Check.goodImage("add" + name + "0;add" + name + "7;add" + name + "0000007;");
            Check.row("0, 7, 7", new int[] {x.codeOf(0, 0), x.codeOf(1, 0), x.codeOf(2, 0)}, 3, 3 | 7 << shifts[k], 3 | 7 << shifts[k]);
            Check.imageFault("add" + name + "@8;");
            Check.imageFault("add" + name + "@9999999;");
            Check.imageFault("add" + name + "@-1;");
            Check.imageFault("add" + name + "@-0;");
        }
        for (int n : new int[] {-32768, -1, 0, 1, 32767}) {
            WardEngine x = Check.goodImage("add a 7 b 7 c 7 n " + n + ";");
            Check.is("n " + n, x.codeOf(0, 0), Check.code(3, 7, 7, 7, n));
        }
        Check.goodImage("add n -0;");
        Check.imageFault("add n @32768;");
        Check.imageFault("add n @-32769;");
        Check.imageFault("add n @9999999;");
        Check.imageFault("add n @-9999999;");
        for (int kind = 0; kind < 22; kind++) {
            WardEngine x = Check.goodImage(Model.KINDS.get(kind) + " tag 9999999;" + Model.KINDS.get(kind) + " tag -9999999;");
            Check.row(Model.KINDS.get(kind), new int[] {x.codeOf(0, 0), x.codeOf(0, 1), x.codeOf(1, 1)}, kind, 9999999, -9999999);
        }
    }

    private static void words() {
        Check.sentence("word PLACE (0 .. 95) NUMBER, and, in this order, perhaps held NUMBER, perhaps owner NUMBER");
        WardEngine x = Check.goodImage("word 0 9999999 held -9999999 owner 9999999;word 95 -9999999 held 9999999 owner -9999999;"
                + "word 1 2;word 2 3 held 4;word 3 5 owner 6;");
        Check.row("word 0", Check.word(x, 0), 9999999, -9999999, 9999999);
        Check.row("word 95", Check.word(x, 95), -9999999, 9999999, -9999999);
        Check.row("word 1", Check.word(x, 1), 2, 0, 0);
        Check.row("word 2", Check.word(x, 2), 3, 4, 0);
        Check.row("word 3", Check.word(x, 3), 5, 0, 6);
        Check.imageFault("word @96 1;");
        Check.imageFault("word @9999999 1;");
        Check.imageFault("word @-1 1;");
        Check.imageFault("word @-0 1;");
        Check.imageFault("word@;");
        Check.imageFault("word 1@;");
        Check.imageFault("word 1 @held 2;");
        Check.imageFault("word 1 2 @3;");
        Check.imageFault("word 1 2 owner 3 @held 4;");
        Check.imageFault("word 1 2 held 3 @held 4;");
        Check.imageFault("word 1 2 owner 3 @owner 4;");
        Check.imageFault("word 1 2 held@;");
        Check.imageFault("word 1 2 held 3 owner@;");
        Check.imageFault("word 1 2 @tag 3;");
        Check.imageFault("word 1 2 held @owner 3;");
    }

    private static void registers() {
        Check.sentence("register PLACE (0 .. 8, 8 the PC) NUMBER, perhaps tag NUMBER");
        WardEngine x = Check.goodImage("register 0 -9999999 tag 9999999;register 7 1;register 8 9999999 tag -9999999;");
        Check.row("register 0", Check.register(x, 0), -9999999, 9999999);
        Check.row("register 7", Check.register(x, 7), 1, 0);
        Check.row("PC", Check.register(x, 8), 9999999, -9999999);
        Check.imageFault("register @9 1;");
        Check.imageFault("register @9999999 1;");
        Check.imageFault("register @-1 1;");
        Check.imageFault("register@;");
        Check.imageFault("register 1@;");
        Check.imageFault("register 1 @tag 1;");
        Check.imageFault("register 1 2 tag@;");
        Check.imageFault("register 1 2 @3;");
        Check.imageFault("register 1 2 tag 3 @tag 4;");
        Check.imageFault("register 1 2 @held 3;");
    }

    private static void inputs() {
        Check.sentence("input NUMBER, perhaps tag NUMBER");
        WardEngine x = Check.goodImage("input 9999999 tag -9999999;input -9999999;in a 1;in a 2;");
        Check.is("two wait", x.state(5), 2);
        Check.policy(x, "in:tag=i;");
        Check.is("run", x.run(2), 2);
        Check.row("the first", Check.register(x, 1), 9999999, -9999999);
        Check.row("the second", Check.register(x, 2), -9999999, 0);
        Check.imageFault("input@;");
        Check.imageFault("input 1 @2;");
        Check.imageFault("input 1 tag@;");
        Check.imageFault("input 1 tag 2 @tag 3;");
        Check.imageFault("input @tag 2;");
    }

    private static void seventeenthInput() {
        Check.sentence("(the 17th one's word is the fault)");
        WardEngine x = Check.goodImage("input 1;".repeat(16));
        Check.is("sixteen", x.state(5), 16);
        Check.imageFault("input 1;".repeat(16) + "@input 1;");
        Check.imageFault("input 1;".repeat(16) + "halt;@input");
        Check.imageFault("input 1;".repeat(16) + "@input > ;");
        Check.imageFault("input 1;".repeat(15) + "input@;");
        WardEngine y = new WardEngine();
        for (int k = 0; k < 16; k++) {
            y.input(k, k);
        }
        Check.is("those that waited before don't count", Check.image(y, "input 1;".repeat(16)), WardEngine.NONE);
        Check.is("sixteen", y.state(5), 16);
    }

    private static void minus() {
        Check.sentence("A NUMBER is a token, perhaps with - ahead (of a PLACE and a, b, c not)");
        WardEngine x = Check.goodImage("word 0 -1 held - 2 owner -\n3;register 0 -0 tag -4;add n -#\n5 tag -6;");
        Check.row("word", Check.word(x, 0), -1, -2, -3);
        Check.row("register", Check.register(x, 0), 0, -4);
        Check.row("code", new int[] {x.codeOf(0, 0), x.codeOf(0, 1)}, Check.code(3, 0, 0, 0, -5), -6);
        Check.imageFault("word 0 -@-1;");
        Check.imageFault("word 0 -@;");
        Check.imageFault("word 0 @+1;");
        Check.imageFault("word 0 1@-;");
        Check.imageFault("add tag -@a;");
        Check.imageFault("register 0 -@");
        Check.imageFault("input 1 tag -@-1;");
    }

    private static void whatIsNotTold() {
        Check.sentence("what isn't told is 0");
        WardEngine x = new WardEngine();
        x.code(0, -1, -1);
        x.word(0, -1, -1, -1);
        x.register(0, -1, -1);
        Check.is("image", Check.image(x, "halt;word 0 1;register 0 1;"), WardEngine.NONE);
        Check.row("code", new int[] {x.codeOf(0, 0), x.codeOf(0, 1)}, 0, 0);
        Check.row("word", Check.word(x, 0), 1, 0, 0);
        Check.row("register", Check.register(x, 0), 1, 0);
    }

    private static void laterLines() {
        Check.sentence("where a place is told twice the later line counts");
        WardEngine x = Check.goodImage("mark a 1 b 2 c 3 n 4 tag 5;at 0;add n 6;word 9 1 held 2 owner 3;word 9 4;"
                + "register 8 1 tag 2;register 8 3;register 8 4 tag 5;word 10 1;word 10 2 owner 3;");
        Check.row("code", new int[] {x.codeOf(0, 0), x.codeOf(0, 1)}, Check.code(3, 0, 0, 0, 6), 0);
        Check.row("word 9", Check.word(x, 9), 4, 0, 0);
        Check.row("word 10", Check.word(x, 10), 2, 0, 3);
        Check.row("PC", Check.register(x, 8), 4, 5);
    }

    private static void beyond() {
        Check.sentence("(A number that is beyond what may be is the fault, its - if it has one");
        Check.imageFault("add n @-32769;");
        Check.imageFault("add n  @- 32769;");
        Check.imageFault("add n @-\n# x\n 32769;");
        Check.imageFault("add n @32768 >;");
        Check.imageFault("at @64 >;");
        Check.imageFault("add a 7 b @8;");
        // The number is the fault even where what comes behind it couldn't come, either.
        Check.imageFault("word @96;");
        Check.imageFault("register @9");
    }

    private static void eightDigits() {
        Check.sentence("of eight digits and more it is the fault itself.)");
        for (String ahead : new String[] {"clear ", "add tag ", "add n ", "word 1 ", "word 1 2 held ", "word 1 2 owner ", "register 1 ",
            "register 1 2 tag ", "input ", "input 1 tag "}) {
            Check.imageFault(ahead + "@00000000;");
            Check.imageFault(ahead + "@12345678;");
            Check.imageFault(ahead + "@123456789012;");
            Check.imageFault(ahead + "-@12345678;");
            Check.imageFault(ahead + "- @00000000;");
        }
        for (String ahead : new String[] {"at ", "word ", "register ", "add a ", "add b ", "add c "}) {
            Check.imageFault(ahead + "@00000000;");
            Check.imageFault(ahead + "@-00000000;");
        }
        Check.goodImage("at 0000063;word 0000095 0000001;register 0000008 0000000;");
    }

    private static void tokens() {
        Check.sentence("A text (tokens as in 2) may also be an IMAGE");
        WardEngine x = Check.goodImage("clear5;at3;add a1b2c3n-4tag5;word6 7held8owner9;register1 2tag3;input4tag5;#;\nhalt# x\n;");
        Check.row("code", new int[] {x.codeOf(3, 0), x.codeOf(3, 1)}, Check.code(3, 1, 2, 3, -4), 5);
        Check.row("word", Check.word(x, 6), 7, 8, 9);
        Check.row("register", Check.register(x, 1), 2, 3);
        Check.imageFault("@adda 1;");
        Check.imageFault("add @ab 1;");
        Check.imageFault("add a 1 @2;");
        Check.imageFault("@Add;");
        Check.imageFault("halt;@>");
        Check.imageFault("halt @= 1;");
        Check.imageFault("halt;@12345678");
    }

    private static void wordsThatCannotCome() {
        Check.sentence("The FAULT of a text: .. a token .. that can't come there, is a word that is none of these");
        for (String word : new String[] {"a", "b", "c", "n", "tag", "held", "owner", "need", "next", "pc", "code", "before", "fresh", "pair",
            "first", "base", "none", "x", "words", "ats"}) {
            Check.imageFault("@" + word + " 1;");
            Check.imageFault("halt;@" + word + " 1;");
        }
        for (String word : new String[] {"held", "owner", "word", "at", "clear", "pc", "va", "w", "halt", "next", "x", "d"}) {
            Check.imageFault("add @" + word + " 1;");
            Check.imageFault("add a 1 @" + word + " 1;");
        }
    }

    private static void theEnd() {
        Check.sentence("the end is a token, too, whose place is the number of all signs");
        for (String text : new String[] {"at", "at 1", "word", "word 1", "word 1 2", "word 1 2 held", "word 1 2 held 3", "register", "register 1",
            "register 1 2", "register 1 2 tag", "input", "input 1", "input 1 tag", "input -", "add", "add a", "add a 1", "clear", "clear 1"}) {
            Check.imageFault(text + "@");
            Check.imageFault(text + " \n @");
            Check.imageFault(text + " # ;@");
        }
    }

    private static void asBehindBegin() {
        Check.sentence("image: NONE, and all is as behind begin() with what it says");
        WardEngine x = Check.ready("mark:tag=before;next=fresh;owner=clear;make:owner=1;out:add:tag=pair(1,1);in:",
                "clear 8;make a 1 b 2;out;add a 3;mark;in;in;register 2 2;input 3 tag 4;input 5 tag 6;word 50 1 held 1 owner 1;");
        Check.is("run", x.run(5), 5);
        Check.is("an image", Check.image(x, "mark a 1 tag 3;"), WardEngine.NONE);
        for (int what = 0; what < 10; what++) {
            Check.is("state(" + what + ")", x.state(what), 0);
        }
        Check.row("words", new int[] {x.wordOf(0, 2), x.wordOf(1, 2), x.wordOf(50, 0), x.wordOf(50, 1), x.wordOf(50, 2)}, 0, 0, 0, 0, 0);
        Check.row("code behind it", new int[] {x.codeOf(1, 0), x.codeOf(5, 0)}, 0, 0);
        Check.row("registers", new int[] {x.registerOf(2, 0), x.registerOf(3, 1), x.registerOf(8, 0), x.registerOf(8, 1)}, 0, 0, 0, 0);
        Check.row("counts", new int[] {x.count(19, 0), x.count(17, 0), x.count(21, 1)}, 0, 0, 0);
        Check.outside("output(0)", () -> x.output(0));
        Check.outside("pairOf(0, 0)", () -> x.pairOf(0, 0));
        Check.outside("journal(0, 0)", () -> x.journal(0, 0));
        Check.outside("cacheOf(0, 0)", () -> x.cacheOf(0, 0));
        x.run(1);
        Check.row("before, fresh, clear", new int[] {x.cacheOf(0, 22), x.cacheOf(0, 24), x.cacheOf(0, 23)}, -1, 2, 0);
        WardEngine stopped = Check.ready("halt:", "halt;");
        stopped.run(1);
        Check.is("an image", stopped.image(), WardEngine.NONE);
        Check.is("it goes again", stopped.run(1), 1);
        Check.sentence("image: .. The text stays.");
        Check.is("the text", stopped.put(0), 5);
        Check.sentence("begin: policy, text, the policy that is kept, what differ() found latest .. stay");
        Check.is("the policy", stopped.names(0), 0);
    }

    private static void itsFault() {
        Check.sentence("or its fault (all stays). The text stays.");
        String[] spoiled = {"clear 9;word 7 1;register 1 8;input 1;mark;at 3;>", "mark a 1;register 1 1 tag 1;register 8 5;at 64;",
            "input 1;".repeat(17), "halt;".repeat(65), "clear 4;word 7 1", ";"};
        for (String text : spoiled) {
            WardEngine x = Check.ready("mark:tag=clear;in:tag=i;", "clear 3;mark a 2;in a 3;in a 4;register 1 5 tag 6;input 7 tag 8;word 7 2 held 3 owner 4;");
            x.run(1);
            Check.text(x, text);
            Check.is("faulty", x.image() >= 0 ? 1 : 0, 1);
            Check.is("the text", x.put(0), text.length());
            Check.row("states", new int[] {x.state(0), x.state(2), x.state(3), x.state(5), x.state(8), x.state(9)}, 0, 1, 1, 1, 1, 1);
            Check.row("register 1", Check.register(x, 1), 5, 6);
            Check.row("register 2", Check.register(x, 2), 0, 3);
            Check.row("PC", Check.register(x, 8), 1, 0);
            Check.row("word", Check.word(x, 7), 2, 3, 4);
            Check.row("code", new int[] {x.codeOf(0, 0), x.codeOf(1, 0), x.codeOf(3, 0)}, Check.code(21, 2, 0, 0, 0), Check.code(18, 3, 0, 0, 0), 0);
            Check.is("it goes on", x.run(1), 1);
            Check.row("the input", Check.register(x, 3), 7, 8);
            x.register(8, 0, 0);
            x.run(1);
            Check.is("clear", x.registerOf(2, 1), 3);
        }
    }

    private static void imageAfterAFault() {
        Check.sentence("all is as behind begin() with what it says");
        WardEngine x = new WardEngine();
        Check.is("a good one", Check.image(x, "mark a 1;word 1 1;input 1;"), WardEngine.NONE);
        String faulty = "clear 9;go b 1;word 1 2;word 2 2;register 1 3;input 2;input 3;at 9;mark;";
        Check.is("a faulty one", Check.image(x, faulty + ">"), faulty.length());
        Check.row("all stays", new int[] {x.codeOf(0, 0), x.wordOf(1, 0), x.wordOf(2, 0), x.registerOf(1, 0), x.state(5), x.codeOf(9, 0)},
                Check.code(21, 1, 0, 0, 0), 1, 0, 0, 1, 0);
        Check.is("a good one", Check.image(x, "halt;"), WardEngine.NONE);
        Check.row("nothing of the faulty one", new int[] {x.codeOf(0, 0), x.wordOf(1, 0), x.wordOf(2, 0), x.registerOf(1, 0), x.state(5), x.codeOf(9, 0)},
                0, 0, 0, 0, 0, 0);
        Check.is("clear", clearOf(x), 0);
    }

    private static void theOtherMachine() {
        Check.sentence("All calls are of the one AT HAND");
        WardEngine x = Check.goodImage("mark a 1;word 1 1;");
        x.swap();
        Check.row("the other one has nothing of it", new int[] {x.codeOf(0, 0), x.wordOf(1, 0)}, 0, 0);
        Check.image(x, "go b 1;");
        Check.image(x, "go b 2;");
        x.swap();
        Check.row("each has its own", new int[] {x.codeOf(0, 0), x.wordOf(1, 0)}, Check.code(21, 1, 0, 0, 0), 1);
        x.twin();
        Check.image(x, "or;");
        x.swap();
        Check.row("the twin stays", new int[] {x.codeOf(0, 0), x.wordOf(1, 0)}, Check.code(21, 1, 0, 0, 0), 1);
    }

    private static void longest() {
        Check.sentence("A TEXT has at most 900 signs");
        WardEngine x = Check.goodImage("at 1;".repeat(178) + "at 2;mark;");
        Check.is("900 signs", x.put(0), 900);
        Check.is("the last line", x.codeOf(2, 0), 21);
        Check.imageFault("at 1;".repeat(179) + "halt @");
        Check.imageFault("at 1;".repeat(179) + "halt@>");
        Check.imageFault("at 1;".repeat(179) + "at 1@");
    }

    private static void listingWords() {
        Check.sentence("A LISTING of code at a place: the kind's word (none and the kind's number with a blank between, if there is none such)");
        for (int kind = 0; kind < 32; kind++) {
            WardEngine x = new WardEngine();
            x.code(kind, kind, 0);
            Check.same("kind " + kind, Check.listing(x, kind), kind < 22 ? Model.KINDS.get(kind) : "none " + kind);
        }
        WardEngine x = new WardEngine();
        Check.same("the last place of a new object", Check.listing(x, 63), "halt");
    }

    private static void listed(int code, int tag, String due) {
        WardEngine x = new WardEngine();
        x.code(63, code, tag);
        Check.same("listing of " + code, Check.listing(x, 63), due);
    }

    private static void listingParts() {
        Check.sentence("then what isn't 0 of a, b, c, n, tag, each with its name, all with one blank between");
        listed(Check.code(3, 1, 0, 0, 0), 0, "add a 1");
        listed(Check.code(3, 0, 7, 0, 0), 0, "add b 7");
        listed(Check.code(3, 0, 0, 1, 0), 0, "add c 1");
        listed(Check.code(3, 0, 0, 0, 1), 0, "add n 1");
        listed(Check.code(3, 0, 0, 0, -1), 0, "add n -1");
        listed(Check.code(3, 0, 0, 0, 32767), 0, "add n 32767");
        listed(Check.code(3, 0, 0, 0, -32768), 0, "add n -32768");
        listed(3, 1, "add tag 1");
        listed(3, -1, "add tag -1");
        listed(3, LEAST, "add tag -2147483648");
        listed(3, MOST, "add tag 2147483647");
        listed(Check.code(4, 7, 7, 7, -32768), LEAST, "subtract a 7 b 7 c 7 n -32768 tag -2147483648");
        listed(Check.code(22, 1, 2, 3, 4), 5, "none 22 a 1 b 2 c 3 n 4 tag 5");
        listed(-1, 0, "none 31 a 7 b 7 c 7 n -1");
        listed(3 | 1 << 14, 0, "add");
        listed(3 | 1 << 15, 0, "add");
        listed(LEAST, 0, "halt n -32768");
    }

    private static void listingSigns() {
        Check.sentence("listing: Sign i of the listing of code at place k; NONE behind its end");
        WardEngine x = new WardEngine();
        Check.row("halt", new int[] {x.listing(0, 0), x.listing(0, 1), x.listing(0, 2), x.listing(0, 3), x.listing(0, 4)},
                'h', 'a', 'l', 't', WardEngine.NONE);
        Check.row("far behind", new int[] {x.listing(63, 5), x.listing(63, 1000), x.listing(63, MOST)}, -1, -1, -1);
        x.code(1, 21, 7);
        Check.row("one is not the other", new int[] {x.listing(1, 0), x.listing(0, 0), x.listing(1, 9), x.listing(1, 10), x.listing(0, 9)},
                'm', 'h', '7', -1, -1);
    }

    private static void wrongListing() {
        Check.sentence("listing: IndexOutOfBoundsException if there is no such place, or i is below 0");
        WardEngine x = new WardEngine();
        for (int k : new int[] {-1, 64, LEAST, MOST}) {
            for (int i : new int[] {-1, 0, MOST}) {
                Check.outside("listing(" + k + ", " + i + ")", () -> x.listing(k, i));
            }
        }
        for (int i : new int[] {-1, LEAST}) {
            Check.outside("listing(0, " + i + ")", () -> x.listing(0, i));
            Check.outside("listing(63, " + i + ")", () -> x.listing(63, i));
        }
    }
}
