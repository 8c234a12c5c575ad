/** Promises 24 to 26: keep, differ, witness; section 6. */
public final class DifferTest {
    public static void main(String[] args) {
        order();
        needs();
        untold();
        partsOfPairs();
        limits();
        wrongCalls();
        keep();
        whatStays();
        Check.end("DifferTest");
    }

    private static WardEngine engine(String kept, String policy) {
        WardEngine x = new WardEngine();
        Check.is("policy " + kept, Check.policy(x, kept), WardEngine.NONE);
        x.keep();
        Check.is("policy " + policy, Check.policy(x, policy), WardEngine.NONE);
        return x;
    }

    private static void unlike(String kept, String policy, int most, int due) {
        Check.is(kept + " " + policy, engine("add:" + kept, "add:" + policy).differ(3, most), due);
        Check.is(policy + " " + kept, engine("add:" + policy, "add:" + kept).differ(3, most), due);
    }

    private static void order() {
        WardEngine x = engine("add:tag=(fresh==2)&(a==1)&(vc==3);", "add:");
        // a is first, vc next, fresh last, and so changes first: 1, 3, 2 with four values each.
        Check.is("differ", x.differ(3, 3), 1 * 16 + 3 * 4 + 2);
        for (int k = 0; k < 15; k++) {
            Check.is("witness(" + k + ")", x.witness(k), k == 1 ? 1 : k == 6 ? 3 : k == 14 ? 2 : 0);
        }
        Check.is("not within most", x.differ(3, 2), WardEngine.NONE);
        Check.badState("witness of none", () -> x.witness(0));
        unlike("tag=b;", "tag=b;", 7, WardEngine.NONE);
        unlike("tag=b;", "tag=c;", 7, 1);
        for (String name : Model.NAMES) {
            unlike("tag=" + name + "==3;", "", 3, 3);
        }
        unlike("tag=b+c;", "tag=c+b;", 7, WardEngine.NONE);
        unlike("tag=1;", "tag=2;", 7, 0);
        unlike("", "", 7, WardEngine.NONE);
        unlike("tag=b<7;", "tag=1;", 6, WardEngine.NONE);
        unlike("tag=b<7;", "tag=1;", 7, 7);
        // A name counts even where it can't change anything.
        unlike("tag=0?a:b;", "tag=0;", 1, 1);
        unlike("tag=0?c:b;", "tag=0;", 1, 2);
    }

    private static void needs() {
        unlike("need b;", "need c;", 1, 1);
        unlike("need b;tag=1;", "tag=2;need b;", 1, 1);
        unlike("need b;tag=1;", "need b;need b<2;tag=1;", 1, WardEngine.NONE);
        unlike("need b;tag=1;", "need b;need b<2;tag=1;", 2, 2);
        unlike("need 0;tag=1;", "need 0;tag=2;", 2, WardEngine.NONE);
        unlike("need 0;", "", 2, 0);
    }

    private static void untold() {
        unlike("tag=0;", "", 7, WardEngine.NONE);
        unlike("next=pc;", "", 7, WardEngine.NONE);
        unlike("owner=o;", "", 7, WardEngine.NONE);
        unlike("next=0;", "", 7, 1);
        unlike("next=1;", "", 7, 0);
        unlike("owner=0;", "", 7, 1);
        unlike("next=0;owner=0;", "", 1, 1);
        unlike("next=0;owner=o;", "", 1, 2);
        unlike("next=0;", "next=0;", 7, WardEngine.NONE);
        unlike("next=b;", "next=c;", 1, 1);
        unlike("owner=b;", "owner=c;", 1, 1);
        // Of mark, too, a tag that isn't told is 0 here, and of make an owner is o.
        WardEngine x = engine("mark:tag=a;make:owner=0;", "mark:make:");
        Check.is("mark", x.differ(21, 1), 1);
        Check.is("mark's a", x.witness(1), 1);
        Check.is("make", x.differ(19, 3), 1);
        Check.is("make's o", x.witness(8), 1);
    }

    private static void partsOfPairs() {
        WardEngine x = engine("mark:tag=first(1000000+n);", "mark:tag=1000000+n;halt:move:tag=pair(5,5);");
        Check.is("no pair is there", x.differ(21, 3), WardEngine.NONE);
        x.code(0, 2, 0);
        x.run(1);
        Check.is("a pair is there", x.differ(21, 3), 0);
        x.begin(0);
        Check.is("no pair any more", x.differ(21, 3), WardEngine.NONE);
    }

    private static void limits() {
        String four = "add:tag=a+b+c+va;";
        WardEngine x = engine(four, four);
        Check.is("4096 cases", x.differ(3, 7), WardEngine.NONE);
        x = engine("add:tag=a+b+c+va;", "add:tag=a+b+c+va;next=1;");
        WardEngine five = x;
        Check.full("with pc too many", () -> five.differ(3, 7));
        Check.full("six values of five names", () -> five.differ(3, 5));
        Check.is("five of five", five.differ(3, 4), 0);
        WardEngine all = engine("add:tag=pc+a+b+c+va+vb+vc+w+o+i+n+code+before+clear+fresh;", "add:");
        Check.full("all names", () -> all.differ(3, 1));
        Check.full("all names", () -> all.differ(3, 7));
        WardEngine twelve = engine("add:tag=pc+a+b+c+va+vb+vc+w+o+i+n;", "add:tag=code;");
        Check.is("twelve names", twelve.differ(3, 1), 1);
        WardEngine last = engine("add:tag=a+b+c+va;", "add:tag=a+b+c+va==28?0:(a+b+c+va);");
        Check.is("the last case", last.differ(3, 7), 4095);
        Check.is("its witness", last.witness(1) + last.witness(2) + last.witness(3) + last.witness(4), 28);
    }

    private static void wrongCalls() {
        WardEngine x = engine("add:tag=b;move:like:tag=pair(1,1);load:mark:", "add:tag=c;mark:tag=base(1);like:load:need first(1);");
        for (int kind : new int[] {-1, 22, 31, Integer.MIN_VALUE}) {
            Check.illegal("kind " + kind, () -> x.differ(kind, 1));
        }
        for (int most : new int[] {-1, 0, 8, Integer.MAX_VALUE}) {
            Check.illegal("most " + most, () -> x.differ(3, most));
            Check.illegal("most goes first", () -> x.differ(0, most));
        }
        Check.badState("no rule", () -> x.differ(0, 1));
        Check.badState("just one rule", () -> x.differ(2, 1));
        Check.badState("base", () -> x.differ(21, 1));
        Check.badState("pair", () -> x.differ(10, 1));
        Check.is("first is fine", x.differ(11, 1), WardEngine.NONE);
        Check.badState("no witness", () -> x.witness(1));
        for (int k : new int[] {-1, 15, Integer.MAX_VALUE}) {
            Check.illegal("witness(" + k + ")", () -> x.witness(k));
        }
        Check.is("differ", x.differ(3, 1), 1);
        Check.badState("just one rule", () -> x.differ(2, 1));
        Check.illegal("no such kind", () -> x.differ(22, 1));
        Check.is("the latest that didn't throw", x.witness(3), 1);
        Check.illegal("witness(15)", () -> x.witness(15));
        WardEngine many = engine("add:tag=pc+a+b+c+va+vb;mark:tag=a+b+c+va+vb;", "add:need pair(1,1);mark:");
        Check.badState("the state goes before the cases", () -> many.differ(3, 7));
        Check.full("too many", () -> many.differ(21, 7));
    }

    private static void keep() {
        WardEngine x = new WardEngine();
        Check.policy(x, "add:tag=b;");
        Check.badState("the other one has no rules", () -> x.differ(3, 1));
        x.keep();
        Check.is("the same", x.differ(3, 1), WardEngine.NONE);
        Check.policy(x, "add:tag=c;");
        Check.is("unlike", x.differ(3, 1), 1);
        Check.policy(x, "add:tag=bad;");
        Check.is("a fault changes nothing", x.differ(3, 1), 1);
        Check.policy(x, "add:tag=b;");
        Check.is("the kept one stays", x.differ(3, 1), WardEngine.NONE);
        Check.policy(x, "halt:");
        x.keep();
        Check.badState("no rule any more", () -> x.differ(3, 1));
        Check.is("halt", x.differ(0, 1), WardEngine.NONE);
    }

    private static void whatStays() {
        WardEngine x = engine("add:tag=b;", "add:tag=c;");
        x.differ(3, 2);
        x.begin(0);
        x.swap();
        x.twin();
        Check.policy(x, "");
        x.keep();
        Check.image(x, "halt;");
        Check.is("what was found stays", x.witness(3), 1);
        Check.is("nothing was asked", x.state(3) + x.state(8) + x.count(3, 1), 0);
    }
}
