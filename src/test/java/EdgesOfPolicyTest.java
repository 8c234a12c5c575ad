/** The edges of promises 4 and 19 and of section 2's texts: tokens, rules, what is open, faults, names. */
public final class EdgesOfPolicyTest {
    private static final String[] COMPARISONS = {"==", "!=", "<", "<="};
    private static final String[] TOLD = {"tag", "next", "owner"};

    public static void main(String[] args) {
        words();
        shortWords();
        numbers();
        twoTokens();
        signs();
        everySign();
        remarks();
        theEnd();
        noneOrSome();
        noKindTwice();
        atMostOnce();
        twoSums();
        tenAreOpen();
        mixedOnesAreOpen();
        openUpToItsEnd();
        wordsThatAreNone();
        theFirstFault();
        longestTexts();
        newPolicy();
        emptyCaches();
        allElseStays();
        faultyPolicy();
        names();
        noSuchKind();
        Check.end("EdgesOfPolicyTest");
    }

    private static void words() {
        Check.sentence("WORDS (small letters, as many as there are)");
        for (String word : Model.KINDS) {
            Check.goodPolicy(word + ":");
            Check.policyFault("@" + word + "a:");
            Check.policyFault("@a" + word + ":");
            Check.policyFault("@" + word + word + ":");
            Check.policyFault("@" + word.substring(0, word.length() - 1) + ":");
            Check.policyFault("@" + Character.toUpperCase(word.charAt(0)) + word.substring(1) + ":");
        }
        Check.policyFault("@haltt:");
        Check.policyFault("@" + "a".repeat(900));
        Check.policyFault("@" + "halt".repeat(225));
        Check.policyFault("@ad d:");
        Check.policyFault("@ad\nd:");
        Check.policyFault("add:@needa;");
        Check.policyFault("add:@tagnext=1;");
        Check.policyFault("add:tag=@pcpc;");
        Check.policyFault("add:tag=@v a;");
        Check.goodPolicy("add:need(a);need!a;need-a;need~a;need\na;need a;");
    }

    /** All words of one to three letters, of which an object reads as many as its calls allow. */
    private static void shortWords() {
        Check.sentence("is a word that is none of these");
        WardEngine x = new WardEngine();
        int read = 0;
        for (int number = 0; number < 27 * 27 * 27; number++) {
            StringBuilder word = new StringBuilder();
            for (int rest = number; rest > 0 && rest % 27 > 0; rest /= 27) {
                word.append((char) ('a' - 1 + rest % 27));
            }
            if (word.length() == 0 || wordNumber(word) != number) {
                continue;
            }
            x = read++ % 40 == 0 ? new WardEngine() : x;
            boolean kind = Model.KINDS.contains(word.toString());
            Check.is("the kind " + word, Check.policy(x, word + ":"), kind ? WardEngine.NONE : 0);
            boolean name = Model.NAMES.contains(word.toString());
            Check.is("the name " + word, Check.policy(x, "or:tag=" + word + ";"), name ? WardEngine.NONE : 7);
        }
        Check.is("words", read, 26 + 26 * 26 + 26 * 26 * 26);
    }

    private static int wordNumber(CharSequence word) {
        int number = 0;
        for (int k = word.length() - 1; k >= 0; k--) {
            number = number * 27 + word.charAt(k) - 'a' + 1;
        }
        return number;
    }

    private static void numbers() {
        Check.sentence("numbers (one to seven digits, as many as there are: 12ab is two tokens)");
        Check.goodPolicy("add:tag=0;");
        Check.goodPolicy("add:tag=9999999;");
        Check.goodPolicy("add:tag=0000000;");
        Check.policyFault("add:tag=@00000000;");
        Check.policyFault("add:tag=@10000000;");
        Check.policyFault("add:tag=@99999999;");
        Check.policyFault("add:tag=@2147483648;");
        Check.policyFault("add:tag=@4294967297;");
        Check.policyFault("add:tag=@" + "1".repeat(892));
        Check.policyFault("add:tag=-@12345678;");
        Check.policyFault("add:tag=1+(@12345678);");
        Check.policyFault("add:tag=1234567 @8;");
        Check.policyFault("add:tag=1234567\n@1234567;");
        gives("0", 0);
        gives("7", 7);
        gives("0000007", 7);
        gives("1000000", 1000000);
        gives("9999999", 9999999);
    }

    /** The tag that a rule tells. */
    private static void gives(String expression, int due) {
        WardEngine x = Check.ruled("halt:tag=" + expression + ";");
        Check.is("run", x.run(1), 1);
        Check.is(expression, x.journal(0, 3), due);
    }

    private static void twoTokens() {
        Check.sentence("12ab is two tokens");
        Check.policyFault("add:tag=12@ab;");
        Check.policyFault("add:tag=12@a;");
        Check.policyFault("add:tag=1234567@a;");
        Check.policyFault("add:tag=@12345678a;");
        Check.policyFault("add:tag=a@12;");
        Check.policyFault("add@12:");
        Check.policyFault("@12add:");
        // Blanks are needed nowhere but between two words or two numbers.
        Check.goodPolicy("add,move:tag=a?1:b;next=first(2)-second(c)|va;need(pc)<=n&!0;need-i!=~w;");
    }

    private static void signs() {
        Check.sentence("and : ; = == != < <= | & ^ + - ! ~ ( ) , ?");
        Check.policyFault("add:need a@= =b;");
        Check.policyFault("add:need a@! =b;");
        Check.policyFault("add:need a< @=b;");
        Check.policyFault("add:need a@=<b;");
        Check.policyFault("add:need a<=@=b;");
        Check.policyFault("add:need a==@=b;");
        Check.policyFault("add:need a!=@=b;");
        Check.policyFault("add:need a==@==b;");
        Check.policyFault("add:need a<@!=b;");
        Check.policyFault("add:need a@!!=b;");
        Check.policyFault("add:need a@>b;");
        Check.policyFault("add:need a<@>b;");
        Check.policyFault("add:need a&@&b;");
        Check.policyFault("add:need a|@|b;");
        Check.policyFault("add:need a+@+b;");
        Check.policyFault("add:need @=a;");
        Check.policyFault("add:need @==a;");
        Check.policyFault("add:tag@==1;");
        Check.policyFault("add:tag = @= 1;");
        Check.policyFault("add:tag@!=1;");
        Check.policyFault("add:tag@<=1;");
        Check.policyFault("add:tag@:1;");
        Check.policyFault("add:tag=@!=1;");
        Check.goodPolicy("add:tag=!1;next=-1;owner=~1;need a==!b;need a<-b;need a<=~b;need a!=!b;need a--b;need a-!b;");
    }

    private static void everySign() {
        Check.sentence("a token (or sign that begins none, or number that is too long) that can't come there");
        for (char sign = 33; sign <= 126; sign++) {
            // Ahead of all, the sign can only begin a kind's word, a remark or a fault.
            boolean remark = sign == '#';
            Check.is("policy " + sign, Check.policy(new WardEngine(), "" + sign), remark ? WardEngine.NONE : 0);
            // Behind an expression it may go on with it, or end the statement.
            int due = "|&^+-<?#".indexOf(sign) >= 0 ? 10 : sign == ';' ? WardEngine.NONE : 9;
            if (sign >= 'a' && sign <= 'z') {
                due = 8;
            }
            String text = "add:tag=n" + sign;
            Check.is("policy " + text, Check.policy(new WardEngine(), text), due);
            // Where a term is due, only what begins one goes on up to the end of the text.
            boolean begins = "!~-(#".indexOf(sign) >= 0 || sign >= '0' && sign <= '9' || "abcwoin".indexOf(sign) >= 0;
            String ahead = "add:need " + sign;
            Check.is("policy " + ahead, Check.policy(new WardEngine(), ahead), begins ? 10 : 9);
        }
        Check.is("line ends and blanks", Check.policy(new WardEngine(), "\n \n\n  \n"), WardEngine.NONE);
    }

    private static void remarks() {
        Check.sentence("what is behind a # up to the line's end doesn't count");
        Check.goodPolicy("#");
        Check.goodPolicy("##");
        Check.goodPolicy("#\n#");
        Check.goodPolicy("# 12345678 ABC @ > add: (((((((((((");
        Check.goodPolicy("#add\nadd:#tag=1;\ntag=2;#");
        Check.goodPolicy("add# :\n:");
        Check.goodPolicy("add:tag=1#;\n;");
        Check.policyFault("#\n@>");
        Check.policyFault("# \n\n @;#\n");
        Check.policyFault("@ad#\nd:");
        Check.policyFault("add:tag=12#\n@34;");
        Check.policyFault("add:need a@=#\n=b;");
        Check.policyFault("add:need a@!#\n=b;");
        Check.policyFault("add:need a<#\n@=b;");
        Check.policyFault("add:tag=1# # ;@");
        Check.policyFault("add:tag=1# # ;\n@");
        gives("1#+1\n+2#;\n", 3);
    }

    private static void theEnd() {
        Check.sentence("the end is a token, too, whose place is the number of all signs");
        Check.policyFault("halt@");
        Check.policyFault("halt   @");
        Check.policyFault("halt\n\n@");
        Check.policyFault("halt # : @");
        Check.policyFault("halt # :\n @");
        Check.policyFault("halt,@");
        Check.policyFault("halt:need@");
        Check.policyFault("halt:need 1@");
        Check.policyFault("halt:tag@");
        Check.policyFault("halt:tag=@");
        Check.policyFault("halt:tag=1 @");
        Check.policyFault("halt:tag=1?@");
        Check.policyFault("halt:tag=1?2@");
        Check.policyFault("halt:tag=1?2:@");
        Check.policyFault("halt:tag=1+@");
        Check.policyFault("halt:tag=1<@");
        Check.policyFault("halt:tag=!@");
        Check.policyFault("halt:tag=(@");
        Check.policyFault("halt:tag=(1@");
        Check.policyFault("halt:tag=pair@");
        Check.policyFault("halt:tag=pair(@");
        Check.policyFault("halt:tag=pair(1@");
        Check.policyFault("halt:tag=pair(1,@");
        Check.policyFault("halt:tag=pair(1,2@");
        Check.policyFault("halt:tag=base(1@");
        Check.policyFault("halt:tag=1" + "+1".repeat(444) + " +@");
    }

    private static void noneOrSome() {
        Check.sentence("A POLICY is rules, none or some .. and STATEMENTS, none or some, up to the next rule (or the end)");
        Check.goodPolicy("");
        Check.goodPolicy(" ");
        Check.goodPolicy("halt:");
        Check.goodPolicy("halt:move:");
        Check.goodPolicy("halt,move:");
        Check.goodPolicy("halt:need 1;move:need 1;need 1;");
        Check.goodPolicy(String.join(":", Model.KINDS) + ":");
        Check.goodPolicy(String.join(",", Model.KINDS) + ":");
        Check.policyFault("@:");
        Check.policyFault("@,");
        Check.policyFault("@;");
        Check.policyFault("halt@;");
        Check.policyFault("halt:@;");
        Check.policyFault("halt:@:");
        Check.policyFault("halt:@,");
        Check.policyFault("halt:need 1;@;");
        Check.policyFault("halt,@,move:");
        Check.policyFault("halt @move:");
        Check.policyFault("@none:");
        Check.policyFault("halt:move@");
        Check.policyFault(String.join(",", Model.KINDS) + ",@:");
        Check.policyFault(String.join(":", Model.KINDS) + ":@,");
        Check.policyFault(String.join(":", Model.KINDS) + ":@pc:");
    }

    private static void noKindTwice() {
        Check.sentence("No kind has two rules (nor stands twice in one).");
        for (String kind : Model.KINDS) {
            String other = kind.equals("go") ? "or" : "go";
            Check.policyFault(kind + ":@" + kind + ":");
            Check.policyFault(kind + ",@" + kind + ":");
            Check.policyFault(kind + "," + other + ",@" + kind + ":");
            Check.policyFault(kind + "," + other + ":tag=1;@" + other);
            Check.policyFault(other + ":" + kind + ":" + "need 1;@" + other + ",");
        }
        Check.policyFault(String.join(",", Model.KINDS) + ",@mark:");
        Check.policyFault(String.join(":", Model.KINDS) + ":@halt:");
    }

    private static void atMostOnce() {
        Check.sentence("each of these three at most once in a rule");
        for (String one : TOLD) {
            Check.policyFault("add:" + one + "=1;@" + one + "=1;");
            Check.policyFault("add:" + one + "=1;need 1;@" + one);
            Check.policyFault("add:" + one + "=1;@" + one + " 1;");
            Check.goodPolicy("add:" + one + "=1;move:" + one + "=1;");
            for (String two : TOLD) {
                if (!one.equals(two)) {
                    Check.goodPolicy("add:" + one + "=1;" + two + "=1;");
                    Check.policyFault("add:" + one + "=1;" + two + "=1;@" + one + "=1;");
                }
            }
        }
        Check.goodPolicy("add:need 1;need 1;need 1;");
    }

    private static void twoSums() {
        Check.sentence("PARTS: SUMS, one, or two with == != < or <= between");
        for (String one : COMPARISONS) {
            Check.goodPolicy("add:tag=a+1" + one + "b-1;");
            Check.policyFault("add:tag=a" + one + "@;");
            Check.policyFault("add:need @" + one + "a;");
            for (String two : COMPARISONS) {
                Check.policyFault("add:tag=a" + one + "b@" + two + "c;");
                Check.goodPolicy("add:tag=(a" + one + "b)" + two + "c;");
                Check.goodPolicy("add:tag=a" + one + "(b" + two + "c);");
                Check.goodPolicy("add:tag=a" + one + "b?1" + one + "2:3" + two + "4;");
            }
        }
    }

    private static final String[] OPENERS = {"!", "~", "-", "(", "pair(", "pair(1,", "first(", "second(", "base(", "1?", "1?1:"};
    private static final String[] CLOSERS = {"", "", "", ")", ",1)", ")", ")", ")", ")", ":1", ""};

    private static boolean isTurning(String opener) {
        return opener.equals("!") || opener.equals("~") || opener.equals("-");
    }

    private static void tenAreOpen() {
        Check.sentence("At most ten of ! ~ - ( ? are open in one another");
        for (int k = 0; k < OPENERS.length; k++) {
            String ten = OPENERS[k].repeat(10);
            Check.goodPolicy("add:tag=" + ten + "1" + CLOSERS[k].repeat(10) + ";");
            for (String eleventh : OPENERS) {
                // What turns a term is closed behind it, so that a ? opens none in it.
                boolean closed = isTurning(OPENERS[k]) && eleventh.startsWith("1?");
                String opened = eleventh.startsWith("1?") ? "1@?" : eleventh.replace("(", "@(");
                opened = isTurning(eleventh) ? "@" + eleventh : opened;
                if (closed) {
                    Check.goodPolicy("add:tag=" + ten + "1?1:1;");
                } else {
                    Check.policyFault("add:tag=" + ten + opened + "1");
                }
            }
        }
    }

    private static void mixedOnesAreOpen() {
        Check.sentence("! ~ - ahead of a term up to its end, each ( (of pair, first, second, base, too)");
        Check.goodPolicy("add:tag=!(-(~(1?first(pair(1,base(1))):1)));");
        Check.policyFault("add:tag=!!(-(~(1?first(pair(1,base@(1))):1)));");
        Check.goodPolicy("add:tag=1?!(second(~(-(1?(1):1)))):1;");
        Check.policyFault("add:tag=1?!(second(~(-(1?(@!1):1)))):1;");
        Check.goodPolicy("add:need " + "!(".repeat(5) + "1" + ")".repeat(5) + ";");
        Check.policyFault("add:need " + "!(".repeat(5) + "@!1" + ")".repeat(5) + ";");
        Check.policyFault("add:need " + "(!".repeat(5) + "@(1;");
    }

    private static void openUpToItsEnd() {
        Check.sentence("a ? up to its expression's end");
        String ten = "(".repeat(10) + "1" + ")".repeat(10);
        String nine = "(".repeat(9) + "1" + ")".repeat(9);
        Check.goodPolicy("add:tag=" + ten + "+" + ten + "-" + "!".repeat(10) + "1<" + ten + ";");
        Check.goodPolicy("add:tag=" + ten + ";next=" + ten + ";need " + ten + ";move:tag=" + ten + ";");
        Check.goodPolicy("add:tag=pair(" + nine + "," + nine + ")+pair(1,1);");
        Check.policyFault("add:tag=pair(" + nine + "," + "(".repeat(9) + "@(1");
        // What is ahead of the ? is not within it, both expressions behind it are.
        Check.goodPolicy("add:tag=" + ten + "?" + nine + ":" + nine + ";");
        Check.policyFault("add:tag=" + ten + "?" + "(".repeat(9) + "@(1");
        Check.policyFault("add:tag=" + ten + "?" + nine + ":" + "(".repeat(9) + "@(1");
        Check.goodPolicy("add:tag=((1?1:1)?(1?1:1):(1?1:1))?((1?1:1)):1;");
        Check.goodPolicy("add:tag=(" + "1?1:".repeat(9) + "1)+(" + "1?1:".repeat(9) + "1)?" + nine + ":1;");
        Check.goodPolicy("add:tag=" + "1?1:".repeat(10) + "1;next=" + "1?1:".repeat(10) + "1;");
    }

    private static void wordsThatAreNone() {
        Check.sentence("is a word that is none of these");
        for (String word : new String[] {"x", "none", "d", "v", "vd", "p", "pcs", "kind", "third", "needs", "z", "all"}) {
            Check.policyFault("@" + word + ":");
            Check.policyFault("add,@" + word + ":");
            Check.policyFault("add:@" + word + "=1;");
            Check.policyFault("add:tag=@" + word + ";");
            Check.policyFault("add:tag=1 @" + word + ";");
        }
        // Words that stand elsewhere can't come here.
        for (String word : new String[] {"at", "word", "register", "input", "held", "pc", "code", "clear", "pair", "base"}) {
            Check.policyFault("@" + word + ":");
            Check.policyFault("add:@" + word + " 1;");
        }
        for (String word : new String[] {"at", "word", "register", "input", "held", "need", "tag", "next", "owner", "add"}) {
            Check.policyFault("add:tag=@" + word + ";");
        }
    }

    private static void theFirstFault() {
        Check.sentence("The FAULT of a text: the first place, going over it");
        Check.policyFault("add:tag=@>12345678 x;add:");
        Check.policyFault("add:tag=@12345678>;");
        Check.policyFault("add:tag=@x>;");
        Check.policyFault("add:tag=1;@tag=((((((((((((1;");
        Check.policyFault("add:@add,add:>");
        Check.policyFault("add:tag=((((((((((@(>");
        Check.policyFault("add:tag=((((((((((@>(");
        Check.policyFault("  \n add @add:");
    }

    private static void longestTexts() {
        Check.sentence("A TEXT has at most 900 signs");
        WardEngine x = Check.ruled("halt:tag=1" + "+1".repeat(444) + ";");
        Check.is("899 signs", x.put(0), 899);
        x.run(1);
        Check.is("445 ones", x.journal(0, 3), 445);
        WardEngine y = Check.ruled("halt:tag=1" + "+1".repeat(444) + "; ");
        Check.is("900 signs", y.put(0), 900);
        WardEngine z = Check.ruled("go:" + "need 1;".repeat(128) + "\n");
        Check.is("128 statements", z.put(0), 900);
        Check.policyFault("go:" + "need 1;".repeat(127) + "need 1 @" );
        Check.policyFault("go:" + "need 1;".repeat(128) + "@;");
        Check.policyFault("@" + "?".repeat(900));
        Check.policyFault(" ".repeat(899) + "@(");
    }

    private static void newPolicy() {
        Check.sentence("policy: The text becomes the policy: NONE");
        WardEngine x = Check.ruled("halt:tag=a;");
        Check.is("names of halt", x.names(0), 2);
        Check.is("the same once more", x.policy(), WardEngine.NONE);
        Check.is("names of halt", x.names(0), 2);
        x.end(0);
        Check.is("the text is not the policy", x.names(0), 2);
        Check.is("an empty one", x.policy(), WardEngine.NONE);
        Check.is("names of halt", x.names(0), WardEngine.NONE);
        Check.policy(x, "mark:");
        Check.is("names of mark", x.names(21), 0);
        Check.is("names of halt", x.names(0), WardEngine.NONE);
        // Nothing of a longer one is left over in a shorter one.
        for (int signs = 0; signs < 4; signs++) {
            WardEngine y = Check.ruled("halt:" + "need 0;".repeat(6));
            Check.is("the same once more", y.policy(), WardEngine.NONE);
            Check.is("once more", y.policy(), WardEngine.NONE);
            Check.policy(y, "halt:tag=" + "~".repeat(signs) + "5;");
            Check.is("run", y.run(1), 1);
            Check.is("its tag", y.journal(0, 3), signs % 2 == 0 ? 5 : ~5);
        }
    }

    /** Two marks, the second a hit, in both machines; the second machine has one instruction more. */
    private static WardEngine withAnswers() {
        WardEngine x = Check.ready("mark:tag=n;", "mark a 1 n 5;mark a 2 n 5;mark a 3 n 6;");
        x.run(2);
        x.twin();
        x.swap();
        x.run(1);
        return x;
    }

    private static int[] figures(WardEngine x) {
        return new int[] {x.state(0), x.state(2), x.state(3), x.state(4), x.state(8), x.state(9)};
    }

    private static void emptyCaches() {
        Check.sentence("the caches of both machines are empty, without questions and hits (3, 4 of state(); count() stays)");
        WardEngine x = withAnswers();
        Check.row("before", figures(x), 0, 3, 3, 1, 2, 3);
        Check.text(x, "mark:");
        Check.row("a text alone changes nothing", figures(x), 0, 3, 3, 1, 2, 3);
        Check.is("policy", x.policy(), WardEngine.NONE);
        Check.row("at hand", figures(x), 0, 3, 0, 0, 0, 3);
        Check.row("counts at hand", Check.counts(x, 21), 3, 3, 1, 0);
        Check.outside("cacheOf(0, 0)", () -> x.cacheOf(0, 0));
        Check.row("journal at hand", Check.entry(x, 1), 1, 21, 3, 5, 0, 0);
        Check.row("register 2", Check.register(x, 2), 0, 5);
        x.swap();
        Check.row("the other one", figures(x), 0, 2, 0, 0, 0, 2);
        Check.row("counts of the other one", Check.counts(x, 21), 2, 2, 1, 0);
        Check.outside("cacheOf(0, 0)", () -> x.cacheOf(0, 0));
        x.run(1);
        Check.is("asked anew", x.journal(0, 2), 2);
        Check.row("from 0 on", figures(x), 0, 3, 1, 0, 1, 3);
        Check.row("counts go on", Check.counts(x, 21), 3, 3, 1, 0);
    }

    private static void allElseStays() {
        Check.sentence("NONE, and the caches of both machines are empty, without questions and hits .. All else stays.");
        WardEngine x = Check.ready("mark:tag=pair(n,clear);next=3;out:make:owner=fresh;in:",
                "clear 9;mark a 1 n 4 tag 77;out a 2;make a 3 b 4;in a 5 tag 79;register 2 8;register 4 2;input 6 tag 7;input 5 tag 4;");
        x.run(4);
        x.code(4, Check.code(21, 6, 0, 0, 0), 0);
        Check.is("policy", Check.policy(x, "mark:tag=before;owner=clear;need fresh==3;"), WardEngine.NONE);
        Check.row("pairs", new int[] {x.state(7), x.pairOf(0, 0), x.pairOf(0, 1)}, 1, 4, 9);
        Check.row("outputs, done, makes", new int[] {x.state(1), x.output(0), x.state(2), x.state(6)}, 1, 8, 4, 1);
        Check.row("made words", new int[] {x.wordOf(0, 2), x.wordOf(1, 2), x.wordOf(2, 2)}, 2, 2, 0);
        Check.row("the PC", Check.register(x, 8), 4, 3);
        Check.is("an input waits", x.state(5), 1);
        Check.is("run", x.run(1), 1);
        Check.is("before is the tag of in, which the earlier policy let be done", x.registerOf(6, 1), 79);
    }

    private static void faultyPolicy() {
        Check.sentence("or its fault (the policy stays). All else stays.");
        WardEngine x = withAnswers();
        x.keep();
        Check.is("a fault", Check.policy(x, "halt:mark:tag=1;move:tag"), 24);
        Check.row("at hand", figures(x), 0, 3, 3, 1, 2, 3);
        Check.is("names of mark", x.names(21), 1 << 10);
        Check.is("names of halt", x.names(0), WardEngine.NONE);
        Check.is("names of move", x.names(2), WardEngine.NONE);
        Check.is("the cache", x.cacheOf(1, 20), 6);
        Check.is("the kept one is the same", x.differ(21, 7), WardEngine.NONE);
        Check.is("once more", x.policy(), 24);
        x.register(8, 0, 0);
        x.run(1);
        Check.is("the rule answers as before", x.journal(0, 3), 5);
        Check.is("by the cache", x.journal(0, 2), 3);
        Check.is("the text stays", x.put(0), 24);
        x.swap();
        Check.row("the other one", figures(x), 0, 2, 2, 1, 1, 2);
        x.end(16);
        Check.is("without its fault", x.policy(), WardEngine.NONE);
        Check.is("names of mark", x.names(21), 0);
        Check.is("names of halt", x.names(0), 0);
    }

    private static void names() {
        Check.sentence("names: What the rule of a kind names, a bit each .. and bits 15 for pair, 16 for base; NONE if there is no rule");
        StringBuilder all = new StringBuilder();
        for (int k = 0; k < 15; k++) {
            WardEngine x = Check.ruled("go:next=0?" + Model.NAMES.get(k) + ":1;or:need " + Model.NAMES.get(k) + ";");
            Check.is(Model.NAMES.get(k), x.names(15), 1 << k);
            Check.is(Model.NAMES.get(k), x.names(7), 1 << k);
            all.append(k == 0 ? "" : "+").append(Model.NAMES.get(k));
        }
        WardEngine x = Check.ruled("go:owner=pair(base(" + all + "),0);or:tag=" + all + "+" + all + ";in:tag=first(second(1));"
                + "out:need 0?pair(1,1):1;mark:need 0?base(1):1;");
        Check.is("all", x.names(15), (1 << 17) - 1);
        Check.is("all twice, without pair and base", x.names(7), (1 << 15) - 1);
        Check.is("first and second have no bit", x.names(18), 0);
        Check.is("pair", x.names(17), 1 << 15);
        Check.is("base", x.names(21), 1 << 16);
        Check.is("no rule", x.names(0), WardEngine.NONE);
        WardEngine y = Check.ruled("halt,mark:tag=a;go:tag=b;");
        Check.is("one rule of two kinds", y.names(0), 2);
        Check.is("one rule of two kinds", y.names(21), 2);
        Check.is("the next rule's own", y.names(15), 4);
    }

    private static void noSuchKind() {
        Check.sentence("names: IllegalArgumentException if there is no such kind (0 .. 21)");
        WardEngine x = Check.ruled(String.join(",", Model.KINDS) + ":");
        for (int kind : new int[] {-1, 22, 31, 32, Integer.MIN_VALUE, Integer.MAX_VALUE}) {
            Check.illegal("names(" + kind + ")", () -> x.names(kind));
        }
        Check.is("names(0)", x.names(0), 0);
        Check.is("names(21)", x.names(21), 0);
    }
}
