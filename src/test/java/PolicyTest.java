/** Promises 4 and 19: policy and names, with the tokens, the grammar and the faults of section 2. */
public final class PolicyTest {
    private static final String[] KINDS = {"halt", "constant", "move", "add", "subtract", "multiply", "and", "or", "xor",
        "below", "like", "load", "store", "jump", "branch", "go", "link", "out", "in", "make", "drop", "mark"};
    private static final String[] NAMES = {"pc", "a", "b", "c", "va", "vb", "vc", "w", "o", "i", "n", "code", "before",
        "clear", "fresh"};

    public static void main(String[] args) {
        kinds();
        names();
        goodTexts();
        tokenFaults();
        grammarFaults();
        faultsOfRules();
        openOnes();
        whatStays();
        longTexts();
        Check.end("PolicyTest");
    }

    private static void good(String text) {
        Check.is("policy " + text, Check.policy(new WardEngine(), text), WardEngine.NONE);
    }

    /** The fault is where the @ stands, which is no part of the text. */
    private static void fault(String marked) {
        int place = marked.indexOf('@');
        String text = marked.substring(0, place) + marked.substring(place + 1);
        Check.is("policy " + marked, Check.policy(new WardEngine(), text), place);
    }

    private static void kinds() {
        for (int kind = 0; kind < KINDS.length; kind++) {
            WardEngine one = Check.ruled("halt,mark:tag=a;");
            Check.is(KINDS[kind], Check.policy(one, KINDS[kind] + ":tag=n;"), WardEngine.NONE);
            for (int k = 0; k < KINDS.length; k++) {
                Check.is("names(" + k + ") of " + KINDS[kind], one.names(k), k == kind ? 1 << 10 : WardEngine.NONE);
            }
        }
        WardEngine x = new WardEngine();
        Check.good("all in one", () -> Check.policy(x, String.join(",", KINDS) + ":tag=a;need pc;"));
        for (int k = 0; k < KINDS.length; k++) {
            Check.is("names(" + k + ")", x.names(k), 3);
        }
        Check.illegal("names(-1)", () -> x.names(-1));
        Check.illegal("names(22)", () -> x.names(22));
        Check.illegal("names(most)", () -> x.names(Integer.MAX_VALUE));
    }

    private static void names() {
        WardEngine x = new WardEngine();
        for (int k = 0; k < NAMES.length; k++) {
            Check.policy(x, "add:need " + NAMES[k] + ";");
            Check.is("names of " + NAMES[k], x.names(3), 1 << k);
        }
        Check.policy(x, "add:need 1?pc:w;tag=pair(1,b);next=first(second(3));halt:owner=base(fresh);go:");
        Check.is("names of add", x.names(3), 1 | 1 << 7 | 1 << 2 | 1 << 15);
        Check.is("names of halt", x.names(0), 1 << 14 | 1 << 16);
        Check.is("names of go", x.names(15), 0);
        Check.policy(x, "add:tag=first(second(3));");
        Check.is("first and second are no names", x.names(3), 0);
    }

    private static void goodTexts() {
        good("");
        good("  \n # halt");
        good("halt:");
        good("halt:move:");
        good(" halt \n, # one\n move : need\n1 ; ");
        good("add:tag=1234567;");
        good("add:tag=0000000;");
        good("add:tag=a-b;next=- -a;");
        good("add:tag=a==b;next=a!=b;owner=a<=b;need a<b;need 1;need 1;");
        good("add:tag=a|b&c^pc+n-1;");
        good("add:tag=a==b?c:pc?1:2;");
        good("add:tag=a?b?1:2:3;");
        good("add:tag=(a<b)<c;");
        good("add:tag=!a==!!b;");
        good("add:tag=pair(a?1:2,b<c);");
        good("add:owner=1;next=2;tag=3;mark:owner=1;next=2;tag=3;");
        good("add:tag=1;# tag=2;\nnext=3;");
        good("add:tag=1;#");
    }

    private static void tokenFaults() {
        fault("@>");
        fault("add:tag=@>1;");
        fault("add:tag=a@*b;");
        fault("@Add:");
        fault("@addx:");
        fault("add@1:");
        fault("@ad:");
        fault("@constantconstant:");
        fault("@haltaaaaaaaaaaaaaaaaaaaaaaaaaaaaaaaaaaaaa:");
        fault("add:tag=12@ab;");
        fault("add:tag=@ab;");
        fault("add:tag=@az;");
        fault("add:tag=@zz;");
        fault("add:@needneed 1;");
        fault("add:tag=@12345678;");
        fault("add:tag=@00000000;");
        fault("add:tag=a@12345678;");
        fault("add:tag@==1;");
        fault("add:tag@!=1;");
        fault("add:tag=1@=2;");
        fault("add:tag=1==@=2;");
        fault("add:need @!=a;");
        fault("add:tag=a<@<b;");
        fault("add:tag=a @! ;");
        fault("add:tag=a@!b;");
        fault("add:tag= # b;\n@");
        fault("add:#need 0;\n@(");
        fault("add:tag=1;@\"");
    }

    private static void grammarFaults() {
        fault("add@");
        fault("add  @");
        fault("add,@");
        fault("add,@:");
        fault("add @move:");
        fault("@,add:");
        fault("@:");
        fault("@;");
        fault("@need 1;");
        fault("@at 3;");
        fault("add:@;");
        fault("add:@at 3;");
        fault("add:@a;");
        fault("add:tag @1;");
        fault("add:need @=1;");
        fault("add:need @");
        fault("add:need 1@");
        fault("add:need 1@move:");
        fault("add:need 1;@1;");
        fault("add:tag=@;");
        fault("add:tag=a|@;");
        fault("add:tag=a @b;");
        fault("add:tag=a==@==b;");
        fault("add:tag=a==b@==c;");
        fault("add:tag=a<b@<c;");
        fault("add:tag=a<=b@!=c;");
        fault("add:tag=(a@;");
        fault("add:tag=(@);");
        fault("add:tag=a@);");
        fault("add:tag=pair@;");
        fault("add:tag=pair(a@);");
        fault("add:tag=pair(a,b@,c);");
        fault("add:tag=pair(@,c);");
        fault("add:tag=first(a@,b);");
        fault("add:tag=second @a;");
        fault("add:tag=base(@);");
        fault("add:tag=a?b@;");
        fault("add:tag=a?b:@;");
        fault("add:tag=a?@:c;");
        fault("add:tag=@?b:c;");
        fault("add:tag=a@:b;");
        fault("add:tag=a?b:c@:d;");
        fault("add:tag=@tag;");
        fault("add:tag=@halt;");
        fault("add:tag=@held;");
        fault("add:tag=@+1;");
        fault("add:tag=1@,2;");
    }

    private static void faultsOfRules() {
        fault("add:@add:");
        fault("add,@add:");
        fault("add:move,@add:");
        fault("add:move:tag=1;@move");
        fault("add:tag=1;@tag=2;");
        fault("add:next=1;@next");
        fault("add:owner=1;need 1;@owner=1;");
        fault("add:tag=1;next=1;@tag 1");
        // The first one counts, whatever comes behind it.
        fault("add:tag=@;tag=12345678;>");
    }

    private static void openOnes() {
        String ten = "((((((((((";
        good("add:tag=" + ten + "1" + ten.replace('(', ')') + ";");
        fault("add:tag=" + ten + "@(1;");
        fault("add:tag=" + ten + "@!1;");
        fault("add:tag=" + ten + "@-1;");
        fault("add:tag=" + ten + "@~1;");
        fault("add:tag=" + ten + "1@?1:1;");
        fault("add:tag=" + ten + "1-1+a<b@,");
        good("add:tag=!~-!~-!~-!1;");
        fault("add:tag=!~-!~-!~-!@!1;");
        good("add:tag=!!!!!!!!!!1+!!!!!!!!!!1-!1;");
        good("add:tag=" + "first(".repeat(10) + "1" + ")".repeat(10) + ";");
        fault("add:tag=" + "first(".repeat(10) + "first@(1;");
        fault("add:tag=" + "pair(1,".repeat(10) + "base@(1;");
        good("add:tag=" + "1?1:".repeat(10) + "1;");
        fault("add:tag=" + "1?1:".repeat(10) + "1@?1:1;");
        good("add:tag=" + "1?".repeat(10) + "1" + ":1".repeat(10) + ";");
        fault("add:tag=" + "1?".repeat(10) + "1@?1:1;");
        good("add:tag=(1?1:1)+(((((((((1?1:1)))))))));");
        good("add:tag=" + ten + "1" + ten.replace('(', ')') + "?1:1;");
        fault("add:tag=" + ten + "1" + ten.replace('(', ')') + "?1:" + "(".repeat(9) + "@(1;");
        // A ? is closed where its brackets end.
        good("add:tag=(1?1:1)+(1?1:1)+(1?1:1)+(1?1:1)+(1?1:1)+(1?1:1)+(1?1:1)+(1?1:1)+(1?1:1)+(1?1:1)+(1?1:1);");
        fault("add:tag=!" + "(".repeat(9) + "1@?(1):1;");
        fault("add:tag=!" + "(".repeat(8) + "1?@(1):1;");
    }

    private static void longTexts() {
        WardEngine x = Check.ruled("add:tag=1" + "+1".repeat(445) + ";");
        for (int k = 0; k < 20; k++) {
            Check.is("900 signs", x.policy(), WardEngine.NONE);
        }
        Check.is("900 signs", x.put(0), 900);
        x.code(0, 3, 0);
        x.run(1);
        Check.is("446 ones", x.registerOf(0, 1), 446);
        fault("add:tag=1" + "+1".repeat(445) + "+@");
        fault(" ".repeat(893) + "go:@go:;");
        good(String.join(":", Model.KINDS) + ":");
        fault("@" + "(".repeat(900));
    }

    private static void whatStays() {
        WardEngine x = new WardEngine();
        Check.policy(x, "halt,constant:tag=n;");
        x.code(0, Check.code(1, 1, 0, 0, 5), 0);
        x.code(1, Check.code(1, 2, 0, 0, 5), 0);
        x.run(2);
        Check.is("a hit", x.state(4), 1);
        Check.is("a fault", Check.policy(x, "halt"), 4);
        Check.is("the policy stays", x.names(1), 1 << 10);
        Check.is("questions stay with a fault", x.state(3), 2);
        Check.is("hits stay with a fault", x.state(4), 1);
        Check.is("the cache stays with a fault", x.state(8), 1);
        x.twin();
        Check.good("a new policy", () -> Check.policy(x, "halt:"));
        for (int machine = 0; machine < 2; machine++) {
            Check.is("questions", x.state(3), 0);
            Check.is("hits", x.state(4), 0);
            Check.is("cache", x.state(8), 0);
            Check.is("done stays", x.state(2), 2);
            Check.is("journal stays", x.state(9), 2);
            Check.is("count of questions stays", x.count(1, 1), 2);
            Check.is("count of hits stays", x.count(1, 2), 1);
            Check.is("register stays", x.registerOf(1, 1), 5);
            x.swap();
        }
        Check.is("the old rule is gone", x.names(1), WardEngine.NONE);
        Check.is("the text stays", x.put(0), 5);
        x.run(1);
        Check.is("halted", x.state(0), 1);
        x.policy();
        Check.is("still halted", x.state(0), 1);
    }
}
