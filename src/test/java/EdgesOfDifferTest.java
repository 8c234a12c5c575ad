/** The edges of section 6 and of promises 24 to 26: keep, differ, witness. */
public final class EdgesOfDifferTest {
    private static final int LEAST = Integer.MIN_VALUE;
    private static final int MOST = Integer.MAX_VALUE;
    private static final int ADD = 3;

    public static void main(String[] args) {
        atFirst();
        namesOfACase();
        justOneTells();
        otherNamesAreZero();
        orderOfCases();
        valuesUpToMost();
        needs();
        answers();
        untold();
        partsOfPairs();
        changesNothing();
        noSuchKind();
        mostOutside();
        noTwoRules();
        pairOrBase();
        tooManyCases();
        exceptionsInOrder();
        lastCase();
        keep();
        keptOneStays();
        witness();
        wrongWitness();
        witnessStays();
        Check.end("EdgesOfDifferTest");
    }

    private static WardEngine both(String kept, String policy) {
        WardEngine x = Check.ruled(kept);
        x.keep();
        Check.is("policy " + policy, Check.policy(x, policy), WardEngine.NONE);
        return x;
    }

    /** Two rules of add; which of both is the kept one makes no difference. */
    private static void differ(String one, String two, int most, int due) {
        Check.is(one + " / " + two, both("add:" + one, "add:" + two).differ(ADD, most), due);
        Check.is(two + " / " + one, both("add:" + two, "add:" + one).differ(ADD, most), due);
    }

    private static void atFirst() {
        Check.sentence("ANOTHER POLICY may be kept to be compared with; at first it has no rules.");
        WardEngine x = Check.ruled(String.join(",", Model.KINDS) + ":");
        for (int kind = 0; kind < 22; kind++) {
            int k = kind;
            Check.badState("differ(" + kind + ", 1)", () -> x.differ(k, 1));
        }
    }

    private static void namesOfACase() {
        Check.sentence("A CASE of a kind is a value, 0 .. most, for each name that a rule of the kind in one of both policies names");
        for (int name = 0; name < 15; name++) {
            String word = Model.NAMES.get(name);
            WardEngine x = both("add:tag=" + word + "==2;", "add:");
            Check.is(word, x.differ(ADD, 2), 2);
            Check.is("witness of " + word, x.witness(name), 2);
        }
        // A name counts, though it may change nothing, and just in one of both.
        differ("tag=b==1;need c+1;", "", 2, 3);
        differ("tag=b==1;", "need c+1;", 2, 3);
        differ("tag=b==1;", "need 1?1:c;", 2, 3);
        differ("tag=c==1;", "need b+1;", 2, 1);
        // Each name once, however often it stands.
        differ("tag=b==1;need b+1;need b+1;", "need b+1;", 2, 1);
        // Only the kind's own rule counts.
        WardEngine x = both("add:tag=c==1;mark:tag=a+b;", "add:mark:tag=va+vb;");
        Check.is("the names of another kind", x.differ(ADD, 1), 1);
    }

    private static void justOneTells() {
        Check.sentence("(and pc, if just one of them tells next; and o, if just one tells owner)");
        differ("next=0;", "", 3, 1);
        differ("next=3;", "", 3, 0);
        differ("owner=0;", "", 3, 1);
        differ("next=0;owner=0;", "", 3, 1);
        differ("next=0;", "owner=0;", 3, 1);
        // With both, pc goes ahead of o: tag of the last name shows how many names there are.
        differ("tag=fresh==1;", "", 1, 1);
        differ("tag=a==1;next=pc;", "", 1, 1);
        differ("tag=a==1;owner=o;", "", 1, 2);
        differ("tag=a==1;next=pc;owner=o;", "", 1, 2);
        differ("tag=a==1;next=0;owner=0;", "next=0;owner=0;", 1, 1);
        differ("tag=w==1;owner=0?o:0;", "owner=0;", 1, 2);
    }

    private static void otherNamesAreZero() {
        Check.sentence("other names are 0 in it");
        WardEngine x = both("add:tag=c==1;", "add:");
        x.begin(5);
        x.register(8, 3, 4);
        x.register(0, 6, 7);
        Check.is("differ", x.differ(ADD, 7), 1);
        for (int k = 0; k < 15; k++) {
            Check.is("witness(" + k + ")", x.witness(k), k == 3 ? 1 : 0);
        }
    }

    private static void orderOfCases() {
        Check.sentence("Cases are in the order of these values, the first name's first (in the order of 2; so the last one's change first)");
        for (int first = 0; first < 14; first++) {
            String one = Model.NAMES.get(first);
            String two = Model.NAMES.get(first + 1);
            WardEngine x = both("add:tag=(" + two + "==2)&(" + one + "==1);", "add:");
            Check.is(one + " and " + two, x.differ(ADD, 3), 4 + 2);
            Check.row("witness", new int[] {x.witness(first), x.witness(first + 1)}, 1, 2);
        }
        WardEngine x = both("add:tag=fresh+pc==4;", "add:");
        Check.is("the first of several", x.differ(ADD, 3), 7);
        Check.row("witness", new int[] {x.witness(0), x.witness(14)}, 1, 3);
    }

    private static void valuesUpToMost() {
        Check.sentence("differ: The number of the first case (from 0 on) with values 0 .. most .. NONE");
        for (int most = 1; most <= 7; most++) {
            differ("tag=b==" + most + ";", "", most, most);
            differ("tag=" + most + "<b;", "", most, WardEngine.NONE);
            differ("tag=b<0;", "", most, WardEngine.NONE);
            differ("tag=1;", "", most, 0);
        }
    }

    private static void needs() {
        Check.sentence("Two rules answer UNLIKE in a case if just one of them has a need that is 0");
        differ("need b;", "", 1, 0);
        differ("need !b;", "", 1, 1);
        differ("need b;", "need b;", 7, WardEngine.NONE);
        differ("need b==1;", "need b==2;", 2, 1);
        differ("need 0;tag=1;next=2;owner=3;", "need 0;", 7, WardEngine.NONE);
        differ("need b;need c;", "need c;need b;", 7, WardEngine.NONE);
        differ("tag=1;need b;", "tag=2;need b;", 1, 1);
        differ("need b+1;need 1;", "", 7, WardEngine.NONE);
    }

    private static void answers() {
        Check.sentence("or neither, and their tags, nexts or owners aren't the same");
        for (String word : new String[] {"tag", "next", "owner"}) {
            differ(word + "=b;", word + "=c;", 3, 1);
            differ(word + "=b;", word + "=b;", 3, WardEngine.NONE);
            differ(word + "=b+c;", word + "=c+b;", 3, WardEngine.NONE);
            differ(word + "=b;", word + "=b==2?0:b;", 3, 2);
        }
        differ("tag=1;next=2;owner=3;", "owner=3;next=2;tag=1;", 3, WardEngine.NONE);
        differ("tag=1;next=2;owner=3;", "tag=1;next=2;owner=4;", 3, 0);
        differ("tag=1;next=2;owner=3;", "tag=1;next=3;owner=3;", 3, 0);
        differ("tag=1;next=2;owner=3;", "tag=2;next=2;owner=3;", 3, 0);
        differ("tag=1;next=2;owner=3;", "tag=2;next=1;owner=3;", 3, 0);
    }

    private static void untold() {
        Check.sentence("where one that isn't told is: tag 0, next pc, owner o");
        differ("tag=0;", "", 7, WardEngine.NONE);
        differ("next=pc;", "", 7, WardEngine.NONE);
        differ("owner=o;", "", 7, WardEngine.NONE);
        differ("tag=0;next=pc;owner=o;", "", 7, WardEngine.NONE);
        differ("next=pc==1;", "", 7, 2);
        differ("owner=o==1;", "", 7, 2);
        // Of every kind so, whatever the machine takes when it does one.
        for (int kind = 0; kind < 22; kind++) {
            String name = Model.KINDS.get(kind);
            WardEngine x = both(name + ":tag=a;", name + ":");
            Check.is("tag of " + name, x.differ(kind, 7), 1);
            WardEngine y = both(name + ":owner=0;", name + ":");
            Check.is("owner of " + name, y.differ(kind, 7), 1);
            WardEngine z = both(name + ":tag=0;next=pc;owner=o;", name + ":");
            Check.is("all of " + name, z.differ(kind, 7), WardEngine.NONE);
        }
    }

    private static void partsOfPairs() {
        Check.sentence("(Pairs for first and second are as they are now.)");
        WardEngine x = both("mark:tag=first(1000000+n);", "mark:tag=1000000+n;add:tag=pair(5,n);");
        x.code(0, Check.code(ADD, 1, 1, 1, 6), 0);
        Check.is("no pair", x.differ(21, 3), WardEngine.NONE);
        x.run(1);
        Check.is("one pair", x.differ(21, 3), 0);
        x.swap();
        Check.is("the other machine has none", x.differ(21, 3), WardEngine.NONE);
        x.swap();
        Check.is("this one has", x.differ(21, 3), 0);
        x.begin(0);
        Check.is("begin", x.differ(21, 3), WardEngine.NONE);
        WardEngine y = both("mark:tag=second(1000000+n);", "mark:tag=0;add:tag=pair(5,n);");
        y.code(0, Check.code(ADD, 1, 1, 1, 0), 0);
        y.code(1, Check.code(ADD, 1, 2, 1, 6), 0);
        y.run(2);
        Check.is("the second pair", y.differ(21, 3), 1);
        Check.is("none of three", y.state(7), 2);
    }

    private static void changesNothing() {
        Check.sentence("differ: The number of the first case");
        WardEngine x = both("mark:tag=n;", "mark:tag=n;need n<6;");
        Check.image(x, "mark n 1;mark n 1;");
        x.run(1);
        Check.is("differ", x.differ(21, 7), 6);
        Check.row("it asks nothing", new int[] {x.state(0), x.state(2), x.state(3), x.state(4), x.state(7), x.state(8), x.state(9)},
                0, 1, 1, 0, 0, 1, 1);
        Check.row("counts", Check.counts(x, 21), 1, 1, 0, 0);
        Check.is("no violation", x.blame(), WardEngine.NONE);
        Check.is("it goes on", x.run(1), 1);
        Check.is("a hit", x.journal(0, 2), 3);
    }

    private static void noSuchKind() {
        Check.sentence("differ: IllegalArgumentException if there is no such kind");
        WardEngine x = both(String.join(",", Model.KINDS) + ":", String.join(",", Model.KINDS) + ":tag=1;");
        for (int kind : new int[] {-1, 22, 31, LEAST, MOST}) {
            Check.illegal("differ(" + kind + ", 1)", () -> x.differ(kind, 1));
        }
        Check.is("differ(0, 1)", x.differ(0, 1), 0);
        Check.is("differ(21, 1)", x.differ(21, 1), 0);
    }

    private static void mostOutside() {
        Check.sentence("differ: IllegalArgumentException if .. most isn't 1 .. 7");
        WardEngine x = both("add:tag=b;", "add:tag=c;");
        for (int most : new int[] {-1, 0, 8, LEAST, MOST}) {
            Check.illegal("differ(3, " + most + ")", () -> x.differ(ADD, most));
        }
        Check.is("differ(3, 1)", x.differ(ADD, 1), 1);
        Check.is("differ(3, 7)", x.differ(ADD, 7), 1);
    }

    private static void noTwoRules() {
        Check.sentence("differ: IllegalStateException if not both have a rule of it");
        WardEngine x = both("add:move:", "add:mark:");
        Check.badState("neither", () -> x.differ(0, 1));
        Check.badState("only the kept one", () -> x.differ(2, 1));
        Check.badState("only the policy", () -> x.differ(21, 1));
        Check.is("both", x.differ(ADD, 1), WardEngine.NONE);
    }

    private static void pairOrBase() {
        Check.sentence("differ: IllegalStateException if .. one of these has pair or base");
        for (String bad : new String[] {"tag=pair(1,1);", "tag=base(1);", "need 1?1:pair(1,1);", "owner=0?base(1):1;"}) {
            WardEngine one = both("add:" + bad, "add:");
            Check.badState("the kept one " + bad, () -> one.differ(ADD, 1));
            WardEngine two = both("add:", "add:" + bad);
            Check.badState("the policy " + bad, () -> two.differ(ADD, 1));
            WardEngine three = both("add:" + bad, "add:" + bad);
            Check.badState("both " + bad, () -> three.differ(ADD, 1));
            WardEngine other = both("add:mark:" + bad, "add:mark:" + bad);
            Check.is("a rule of another kind", other.differ(ADD, 1), WardEngine.NONE);
        }
        differ("tag=first(1)+second(1);", "tag=1;", 1, WardEngine.NONE);
    }

    private static void tooManyCases() {
        Check.sentence("differ: UnsupportedOperationException if there are more than 4096 cases");
        // The most names that may be with values 0 .. most: 2 to the 12th, 8 to the 4th and so on are not beyond 4096.
        int[] names = {0, 12, 7, 6, 5, 4, 4, 4};
        for (int most = 1; most <= 7; most++) {
            WardEngine x = both("add:tag=" + sumOf(names[most]) + ";", "add:tag=" + sumOf(names[most]) + ";");
            Check.is(names[most] + " names, 0 .. " + most, x.differ(ADD, most), WardEngine.NONE);
            int m = most;
            WardEngine y = both("add:tag=" + sumOf(names[most] + 1) + ";", "add:tag=" + sumOf(names[most] + 1) + ";");
            Check.full(names[most] + 1 + " names, 0 .. " + most, () -> y.differ(ADD, m));
        }
        WardEngine apart = both("add:tag=pc+a;", "add:tag=b+c+va;");
        Check.is("five names of both, 0 .. 4", apart.differ(ADD, 4), 1);
        Check.full("five names of both, 0 .. 5", () -> apart.differ(ADD, 5));
        WardEngine withPc = both("add:tag=a+b+c+va;", "add:tag=a+b+c+va;next=1;");
        Check.full("pc is the fifth", () -> withPc.differ(ADD, 7));
        WardEngine pcNamed = both("add:tag=a+b+c+pc;", "add:tag=a+b+c+pc;next=pc;");
        Check.is("pc is one of four", pcNamed.differ(ADD, 7), WardEngine.NONE);
        WardEngine withOwner = both("add:tag=a+b+c+va;owner=1;", "add:tag=a+b+c+va;");
        Check.full("o is the fifth", () -> withOwner.differ(ADD, 7));
        WardEngine bothTell = both("add:tag=a+b+c+va;owner=1;next=1;", "add:tag=a+b+c+va;owner=1;next=1;");
        Check.is("both tell them", bothTell.differ(ADD, 7), WardEngine.NONE);
        WardEngine all = both("add:tag=" + sumOf(15) + ";", "add:");
        Check.full("all names, 0 .. 1", () -> all.differ(ADD, 1));
        Check.full("all names, 0 .. 7", () -> all.differ(ADD, 7));
    }

    private static String sumOf(int names) {
        return String.join("+", Model.NAMES.subList(0, names));
    }

    private static void exceptionsInOrder() {
        Check.sentence("of several exceptions that one goes which the call names first");
        WardEngine x = both("add:tag=pair(a+b+c+va+vb,1);", "add:mark:");
        Check.illegal("kind ahead of the state", () -> x.differ(22, 7));
        Check.illegal("most ahead of the state", () -> x.differ(ADD, 8));
        Check.illegal("most ahead of no rule", () -> x.differ(0, 0));
        Check.badState("the state ahead of the cases", () -> x.differ(ADD, 7));
        WardEngine y = both("add:tag=" + sumOf(15) + ";", "mark:");
        Check.badState("no rule ahead of the cases", () -> y.differ(ADD, 7));
        Check.illegal("most ahead of the cases", () -> both("add:tag=" + sumOf(15) + ";", "add:").differ(ADD, 8));
    }

    private static void lastCase() {
        Check.sentence("differ: The number of the first case (from 0 on)");
        WardEngine eight = both("add:tag=a+b+c+va==28;", "add:");
        Check.is("the last of 4096", eight.differ(ADD, 7), 4095);
        Check.row("witness", new int[] {eight.witness(1), eight.witness(2), eight.witness(3), eight.witness(4)}, 7, 7, 7, 7);
        WardEngine two = both("add:tag=" + sumOf(12) + "==12;", "add:");
        Check.is("the last of 4096", two.differ(ADD, 1), 4095);
        WardEngine one = both("add:tag=1;", "add:");
        Check.is("the only one", one.differ(ADD, 7), 0);
        WardEngine none = both("add:tag=a+b+c+va==29;", "add:");
        Check.is("none of 4096", none.differ(ADD, 7), WardEngine.NONE);
    }

    private static void keep() {
        Check.sentence("keep: The policy, as it is, is kept as the other one.");
        WardEngine x = Check.ruled("add:tag=b;");
        Check.badState("not kept yet", () -> x.differ(ADD, 1));
        x.keep();
        Check.is("the same", x.differ(ADD, 7), WardEngine.NONE);
        Check.text(x, "add:tag=c;");
        x.keep();
        Check.is("a text is no policy", x.differ(ADD, 7), WardEngine.NONE);
        x.policy();
        Check.is("another policy", x.differ(ADD, 7), 1);
        x.keep();
        Check.is("kept anew", x.differ(ADD, 7), WardEngine.NONE);
        Check.policy(x, "");
        x.keep();
        Check.policy(x, "add:");
        Check.badState("one of no rules was kept", () -> x.differ(ADD, 1));
        Check.is("names are of the policy", x.names(ADD), 0);
    }

    private static void keptOneStays() {
        Check.sentence("begin: policy, text, the policy that is kept .. stay");
        WardEngine x = Check.ruled("add:tag=b;");
        x.keep();
        x.begin(3);
        Check.image(x, "halt;");
        x.twin();
        x.swap();
        x.run(1);
        Check.is("a fault", Check.policy(x, "add:tag=c"), 9);
        Check.is("the same still", x.differ(ADD, 7), WardEngine.NONE);
        // Policies that come behind it must not be written over it.
        Check.policy(x, "add:tag=1;");
        Check.policy(x, "add:tag=2;");
        Check.policy(x, "add:tag=c;need c;");
        Check.is("the third", x.differ(ADD, 7), 0);
        Check.policy(x, "add:tag=b;");
        Check.is("the kept one", x.differ(ADD, 7), WardEngine.NONE);
    }

    private static void witness() {
        Check.sentence("witness: What name k (pc 0, .. fresh 14) is in the case that the latest differ() (that didn't throw) found");
        WardEngine x = both("add:tag=(pc==1)&(i==2)&(fresh==3);move:tag=b==1;", "add:move:");
        Check.is("differ", x.differ(ADD, 3), 16 + 8 + 3);
        for (int k = 0; k < 15; k++) {
            Check.is("witness(" + k + ")", x.witness(k), k == 0 ? 1 : k == 9 ? 2 : k == 14 ? 3 : 0);
        }
        Check.is("another one", x.differ(2, 3), 1);
        for (int k = 0; k < 15; k++) {
            Check.is("witness(" + k + ")", x.witness(k), k == 2 ? 1 : 0);
        }
        Check.illegal("one that throws", () -> x.differ(2, 8));
        Check.badState("one that throws", () -> x.differ(0, 1));
        Check.is("the latest that didn't", x.witness(2), 1);
    }

    private static void wrongWitness() {
        Check.sentence("witness: IllegalArgumentException if there is no such name; IllegalStateException if it found none, or there was none");
        WardEngine x = both("add:tag=b;", "add:tag=c;");
        for (int k : new int[] {-1, 15, LEAST, MOST}) {
            Check.illegal("witness(" + k + ") ahead of the state", () -> x.witness(k));
        }
        for (int k : new int[] {0, 2, 14}) {
            Check.badState("witness(" + k + "), there was none", () -> x.witness(k));
        }
        Check.illegal("one that throws", () -> x.differ(ADD, 0));
        Check.badState("there was none still", () -> x.witness(0));
        Check.is("one is found", x.differ(ADD, 1), 1);
        for (int k : new int[] {-1, 15, LEAST, MOST}) {
            Check.illegal("witness(" + k + ")", () -> x.witness(k));
        }
        Check.is("witness(0)", x.witness(0), 0);
        Check.is("witness(14)", x.witness(14), 0);
        x.keep();
        Check.is("none is found", x.differ(ADD, 1), WardEngine.NONE);
        Check.badState("witness(3)", () -> x.witness(3));
        Check.illegal("witness(15)", () -> x.witness(15));
    }

    private static void witnessStays() {
        Check.sentence("what differ() found latest and the other machine stay");
        WardEngine x = both("add:tag=b;", "add:tag=c;");
        x.differ(ADD, 2);
        x.begin(1);
        Check.image(x, "halt;");
        Check.policy(x, "");
        x.keep();
        x.twin();
        x.swap();
        x.run(1);
        Check.row("it stays", new int[] {x.witness(2), x.witness(3)}, 0, 1);
    }
}
