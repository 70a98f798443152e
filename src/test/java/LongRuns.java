import java.util.ArrayList;
import java.util.List;

/** An object answers its last calls like its first ones, of the 512 that it is used for, however much each call puts together. */
public final class LongRuns {
    private static final String SIGNATURE =
            "free a 0;free b 0;free d 0;free f 0;free h 0;free t 0;free s 1;free g 2;ac un;var x;var y;var z;";

    private LongRuns() {
    }

    public static void main(String[] args) {
        manyTexts();
        manyRules();
        manySums();
        manyFilled();
        deepSteps();
        longWalk();
        Check.finish("LongRuns");
    }

    /** Sums of two or three, all unlike. */
    private static List<String> sums() {
        String[] leaves = {"x", "y", "z", "a", "b", "d"};
        List<String> all = new ArrayList<>();
        for (int i = 0; i < 6; i++) {
            for (int j = i; j < 6; j++) {
                all.add("un(" + leaves[i] + "," + leaves[j] + ")");
                for (int k = j; k < 6; k++) {
                    all.add("un(" + leaves[i] + "," + leaves[j] + "," + leaves[k] + ")");
                }
            }
        }
        return all;
    }

    private static void manyTexts() {
        Check.sentence("many texts");
        SumRewriter x = new SumRewriter();
        List<String> sums = sums();
        for (int i = 0; i < 77; i++) {
            if (i % 26 == 0) {
                Check.due("signature", Check.signature(x, SIGNATURE), 9);
            }
            Check.due("text " + i, Check.term(x, Make.deep(15, sums.get(i))), i % 26);
        }
    }

    private static void manyRules() {
        Check.sentence("many rules");
        SumRewriter x = new SumRewriter();
        List<String> sums = sums();
        String[] leaves = {"a", "b", "d", "f", "h", "t"};
        for (int i = 0; i < 36; i++) {
            if (i % 8 == 0) {
                Check.due("signature", Check.signature(x, SIGNATURE), 9);
            }
            String right = Make.deep(17, "g(" + leaves[i % 6] + "," + leaves[i / 6] + ")");
            Check.due("rule " + i, Check.rule(x, Make.deep(15, sums.get(i)) + "=" + right), i % 8);
        }
    }

    /** A pattern, and sums of six parts, no three of which stand in many of them. */
    private static SumRewriter sixes() {
        String[] parts = {"a", "b", "d", "f", "h", "t", "s(a)", "s(b)", "s(d)", "s(f)", "s(h)", "s(t)", "g(a,a)", "g(b,b)", "g(d,d)",
            "g(f,f)"};
        int[][] shapes = {{0, 1, 3, 7, 10, 12}, {0, 2, 5, 6, 11, 13}};
        SumRewriter x = Make.with(SIGNATURE, "un(x,y)");
        for (int i = 1; i < 30; i++) {
            List<String> six = new ArrayList<>();
            for (int at : shapes[i % 2]) {
                six.add(parts[(at + i / 2) % 16]);
            }
            Check.due("term " + i, Check.term(x, "un(" + String.join(",", six) + ")"), i);
        }
        return x;
    }

    private static void manySums() {
        Check.sentence("many sums");
        SumRewriter x = sixes();
        for (int round = 0; round < 5; round++) {
            for (int t = 1; t < 30; t++) {
                Check.due("matches with " + t, x.matches(0, t), 62);
            }
        }
        Make.rules(x, "un(x,y)=x");
        Check.due("matches of all", x.count(8), 29 * 62 + 2);
        Check.due("normal ones", x.count(6), 0);
    }

    private static void manyFilled() {
        Check.sentence("many filled");
        SumRewriter x = Make.with(SIGNATURE);
        String[] leaves = {"a", "b", "d", "f", "h", "t"};
        for (String leaf : leaves) {
            Check.term(x, Make.deep(8, "un(x," + leaf + ")"));
        }
        for (int i = 0; i < 24; i++) {
            Check.due("term", Check.term(x, by(leaves, i)), 6 + i);
        }
        for (int i = 0; i < 6; i++) {
            for (int j = 0; j < 24; j++) {
                int host = i;
                int other = j + 6;
                Edge.answers("fill " + i + " by " + j, x, y -> y.fill(host, 0, other),
                        Make.deep(8, "un(" + leaves[i] + "," + by(leaves, j) + ")").length());
            }
        }
        Check.due("the last", Check.shown(x), Make.deep(8, "un(t,g(" + Make.deep(3, "t") + ",s(y)))"));
    }

    private static String by(String[] leaves, int i) {
        return "g(" + Make.deep(i / 6, leaves[i % 6]) + ",s(y))";
    }

    private static void deepSteps() {
        Check.sentence("many steps deep in a term");
        SumRewriter x = Make.rules(Make.with(SIGNATURE, Make.deep(12, "un(a,b,d,f,h)")), "un(x,y)=s(x)");
        for (int i = 0; i < 20; i++) {
            Check.due("steps", x.steps(0), 180);
            Check.due("the last one's place", x.stepAt(0, 179, 0), 12);
        }
        Edge.shows("the first", x, y -> y.step(0, 0), Make.deep(13, "a"));
        Edge.shows("the last", x, y -> y.step(0, 179), Make.deep(12, "un(d,f,h,s(b))"));
        SumRewriter z = Make.with("free a 0;free b 0;free d 0;free e 0;free s 1;free g 2;free h 3;c m;ac plus unit e;"
                + "var x;var y;var z;var u;var w;", Make.deep(5, "m(plus(a,a,b,d),plus(a,a,b))"));
        Make.rules(z, "m(plus(x,y,z,u),w)=h(x,y,g(z,g(u,w)))");
        for (int i = 0; i < 20; i++) {
            Check.due("steps by one rule", z.steps(0), 200);
            Check.due("the last one's place", z.stepAt(0, 199, 0), 5);
        }
        Edge.shows("the last by ORDER", z, y -> y.step(0, 199), Make.deep(5, "h(plus(a,a,b,d),e,g(e,g(e,plus(a,a,b))))"));
    }

    private static void longWalk() {
        Check.sentence("a long walk of sums");
        SumRewriter x = Make.with(SIGNATURE, "un(a,b,d,f,h,g(" + Make.deep(4, "t") + "," + Make.deep(6, "t") + "))");
        Make.rules(x, "g(x,s(y))=g(x,y)", "g(s(x),t)=g(x," + Make.deep(6, "t") + ")", "un(x,t)=t");
        for (int i = 0; i < 10; i++) {
            Edge.answers("walk " + i, x, y -> y.walk(0), 34);
            Check.due("there", Check.shown(x), "un(a,b,d,f,h,g(t,t))");
        }
    }
}
