/** The document's "Terms", from MATCHES on: a test for each sentence that names an edge, and what is told of exceptions. */
public final class EdgesOfSteps {
    private static final String TWO_SUMS = "free e 0;free i 0;ac p unit e;ac q unit i;ac r;free a 0;free b 0;free d 0;var x;var y;";
    private static final String MANY =
            "free a 0;free b 0;free d 0;free f 0;free e 0;free g 2;free h 3;c m;ac plus unit e;var x;var y;var z;var u;var w;";
    /** Patterns whose matches can be counted part by part, and what right sides tell each match by. */
    private static final String FOUR = "m(plus(x,y,z,u),w)";
    private static final String TWICE = "m(plus(w,x,x,y,z),u)";
    private static final String TELL = "h(x,y,g(z,g(u,w)))";

    private EdgesOfSteps() {
    }

    public static void main(String[] args) {
        unitsPutIn();
        variablesOfTheTerm();
        orderOfMatches();
        threeHundredMatches();
        matchesInSteps();
        places();
        someParts();
        onePartOrNone();
        sameOperatorAlone();
        rightWithOthers();
        unlikeSteps();
        orderOfSteps();
        stepsTooGreat();
        stepsThatChangeNothing();
        twoHundredSteps();
        twoHundredAtOnePlace();
        normalOnes();
        fortySteps();
        notAskedBehindForty();
        fiftyReached();
        distances();
        notAskedAtTheEnd();
        leastMeeting();
        tooMuchAheadOfMeeting();
        couldOfFreeAndPairs();
        couldOfSumsWithUnit();
        couldOfSumsWithout();
        shown();
        firstException();
        calls512();
        Check.finish("EdgesOfSteps");
    }

    private static void matches(String signature, String pattern, String term, String... want) {
        SumRewriter x = Make.with(signature);
        int p = Integer.parseInt(Check.term(x, pattern));
        int t = Integer.parseInt(Check.term(x, term));
        String what = pattern + " and " + term;
        Check.ask(what, () -> x.matches(p, t), want.length);
        for (int k = 0; k < want.length; k++) {
            StringBuilder got = new StringBuilder();
            for (int v = 0; v < x.count(1); v++) {
                int match = k;
                int variable = v;
                String has = Check.show(x, () -> x.bound(p, t, match, variable));
                got.append(has.startsWith("throws") ? "" : (got.length() > 0 ? " " : "") + has);
            }
            Check.due(what + ", match " + k, got, want[k]);
        }
    }

    /** All steps of a term: place, rule, and the term behind. */
    private static void steps(SumRewriter x, int term, String... want) {
        Check.ask("steps", () -> x.steps(term), want.length);
        for (int k = 0; k < want.length; k++) {
            int i = k;
            String got = Check.answer(() -> x.stepAt(term, i, 0)) + " " + Check.answer(() -> x.stepAt(term, i, 1)) + " "
                    + Check.show(x, () -> x.step(term, i));
            Check.due("step " + k, got, want[k]);
        }
    }

    private static void stepsBy(String signature, String term, String rule, String... want) {
        SumRewriter x = Make.rules(Make.with(signature, term), rule);
        steps(x, 0, want);
    }

    // ---- matches ----

    private static void unitsPutIn() {
        Check.sentence("A unit may be put in, too, where that is so");
        matches(TWO_SUMS, "p(x,y)", "a", "e a", "a e");
        matches(TWO_SUMS, "p(x,y)", "e", "e e");
        matches(TWO_SUMS, "p(x,y)", "q(a,b)", "e q(a,b)", "q(a,b) e");
        matches(TWO_SUMS, "p(x,x)", "e", "e");
        matches(TWO_SUMS, "p(x,x)", "a");
        matches(TWO_SUMS, "r(x,y)", "a");
        matches(TWO_SUMS, "r(x,y)", "r(a,b)", "a b", "b a");
        matches(TWO_SUMS, "p(x,a)", "a", "e");
        matches(TWO_SUMS, "p(x,a,b)", "a");
        matches(TWO_SUMS, "q(x,p(y,a))", "a", "i e");
        matches(TWO_SUMS, "p(x,q(y,y))", "i", "e i");
        matches(TWO_SUMS, "r(x,y)", "r(a,a,b)", "r(a,a) b", "r(a,b) a", "a r(a,b)", "b r(a,a)");
    }

    private static void variablesOfTheTerm() {
        Check.sentence("VARIABLES in the TERM are like OPERATORS of no PARTS then");
        matches(Make.BASE, "s(x)", "s(y)", "y");
        matches(Make.BASE, "s(x)", "s(x)", "x");
        matches(Make.BASE, "s(a)", "s(x)");
        matches(Make.BASE, "x", "y", "y");
        matches(Make.BASE, "a", "x");
        matches(Make.BASE, "m(x,x)", "m(x,y)");
        matches(Make.BASE, "m(x,s(y))", "m(y,s(x))", "y x");
        matches(Make.BASE, "un(x,y)", "un(x,z)", "x z", "z x");
        matches(Make.BASE, "plus(x,y)", "x", "x e", "e x");
    }

    private static void orderOfMatches() {
        Check.sentence("MATCHES are told in ORDER of what the VARIABLE of the least number has, then the next one, and so on");
        matches(Make.BASE, "un(z,y)", "un(x,a,b)", "x un(a,b)", "a un(x,b)", "b un(x,a)", "un(x,a) b", "un(x,b) a", "un(a,b) x");
        matches(Make.BASE, "un(s(z),s(x),y)", "un(s(b),s(a),s(a),b)", "a un(b,s(a)) b", "a un(b,s(b)) a", "b un(b,s(a)) a");
        matches(Make.BASE, "m(y,z)", "m(b,a)", "a b", "b a");
        matches(Make.BASE, "m(y,z)", "m(b,b)", "b b");
        matches(Make.BASE, "m(a,s(b))", "m(s(b),a)", "");
    }

    /** Of like parts n, two to four variables have 10, 20, 35 and so on; with one twice 7, 22 (of 2, of 4). */
    private static SumRewriter many() {
        return Make.with(MANY, FOUR, "m(plus(a,a,b,d),plus(a,a,a,a,f))", TWICE, "m(plus(a,a,b,b,d),plus(d,d,f,f,f,f))",
                "plus(x,x,x,y,z,w)", "plus(a,b,d,d,d,f)");
    }

    private static void threeHundredMatches() {
        Check.sentence("With more than 300 MATCHES it is TOO MUCH");
        SumRewriter x = many();
        Edge.answers("297", many(), y -> y.matches(4, 5), 297);
        Edge.answers("300", x, y -> y.matches(0, 1), 300);
        Edge.shows("the last one's x", x, y -> y.bound(0, 1, 299, 0), "plus(a,a,a,a,f)");
        Edge.refused("no 301st", EdgesOfSteps::many, y -> y.bound(0, 1, 300, 0), Edge.NO_SUCH);
        Edge.refused("301", EdgesOfSteps::many, y -> y.matches(2, 3), Edge.STATE);
        Edge.refused("400", EdgesOfSteps::many, y -> y.matches(0, 3), Edge.STATE);
        Edge.refused("what the first of 301 has", EdgesOfSteps::many, y -> y.bound(2, 3, 0, 0), Edge.STATE);
        Edge.answers("the other way", x, y -> y.matches(3, 2), 0);
    }

    private static SumRewriter manyRuled() {
        SumRewriter x = Make.with(MANY, "m(plus(a,a,b,d),plus(a,a,a,a,f))", "m(plus(a,a,b,b,d),plus(d,d,f,f,f,f))", "a");
        return Make.rules(x, FOUR + "=a", TWICE + "=a", "a=b");
    }

    private static void matchesInSteps() {
        Check.sentence("With .. MATCHES that are TOO MUCH, it is TOO MUCH");
        SumRewriter x = Make.only(manyRuled(), 0);
        steps(x, 0, "0 0 a");
        Edge.answers("300 at top", x, y -> y.atTop(0, 0), 1);
        Edge.answers("301 at top", x, y -> y.atTop(1, 1), Edge.STATE);
        Edge.Setup second = () -> Make.only(manyRuled(), 1);
        Edge.refused("steps", second, y -> y.steps(1), Edge.STATE);
        Edge.refused("step", second, y -> y.step(1, 0), Edge.STATE);
        Edge.refused("stepAt", second, y -> y.stepAt(1, 0, 0), Edge.STATE);
        Edge.refused("walk", second, y -> y.walk(1), Edge.STATE);
        Edge.refused("reach", second, y -> y.reach(1, 1, false), Edge.STATE);
        Edge.refused("meet", second, y -> y.meet(1, 2, 1), Edge.STATE);
        Edge.answers("count 6", second.make(), y -> y.count(6), -1);
        Edge.answers("count 8", second.make(), y -> y.count(8), -1);
        Edge.answers("with the rule off", Make.only(manyRuled(), 2), y -> y.steps(1), 2);
    }

    // ---- steps ----

    private static void places() {
        Check.sentence("PLACES in a TERM: itself 0, then each PART, one behind another, with all that is in it");
        SumRewriter x = Make.rules(Make.with(Make.BASE, "m(s(a),un(a,s(s(a))))", "a"), "a=b");
        steps(x, 0, "2 0 m(s(b),un(a,s(s(a))))", "4 0 m(s(a),un(b,s(s(a))))", "7 0 m(s(a),un(a,s(s(b))))");
        steps(x, 1, "0 0 b");
        Edge.shows("the last", x, y -> y.place(0, 7), "a");
        Edge.shows("the first", x, y -> y.place(0, 0), "m(s(a),un(a,s(s(a))))");
        Edge.shows("of one alone", x, y -> y.place(1, 0), "a");
    }

    private static void someParts() {
        Check.sentence("some of its PARTS (not all), together, are a MATCH of left");
        stepsBy(Make.BASE, "un(a,b)", "un(a,b)=s(a)", "0 0 s(a)");
        stepsBy(Make.BASE, "un(a,b,e)", "un(a,b)=s(a)", "0 0 un(e,s(a))");
        stepsBy(Make.BASE, "un(a,b,e,x,y,z)", "un(a,b)=s(a)", "0 0 un(x,y,z,e,s(a))");
        stepsBy(Make.BASE, "un(a,e)", "un(a,b)=s(a)");
        stepsBy(Make.BASE, "un(a,b)", "un(a,b,e)=s(a)");
        stepsBy(Make.BASE, "un(a,a,a)", "un(a,a)=b", "0 0 un(a,b)");
        stepsBy(Make.BASE, "un(a,a,b)", "un(a,x)=x", "0 0 un(a,b)");
        stepsBy(Make.BASE, "s(un(a,b,e))", "un(a,b)=s(a)", "1 0 s(un(e,s(a)))");
    }

    private static void onePartOrNone() {
        Check.sentence("The MATCH may be of one PART, or of none, if left can be the unit");
        stepsBy(Make.BASE, "plus(a,b)", "plus(x,x)=s(a)", "0 0 plus(a,b,s(a))");
        stepsBy(Make.BASE, "plus(a,b)", "plus(x,a)=s(x)", "0 0 s(b)", "0 0 plus(b,s(e))", "1 0 plus(b,s(e))");
        stepsBy(Make.BASE, "plus(a,b)", "plus(a,s(x))=b");
        stepsBy(Make.BASE, "a", "plus(x,a)=s(x)", "0 0 s(e)");
        stepsBy(Make.BASE, "e", "plus(x,x)=s(x)", "0 0 s(e)");
        stepsBy(Make.BASE, "a", "plus(x,x)=s(x)");
        stepsBy(Make.BASE, "un(a,b)", "un(x,x)=s(a)");
        stepsBy(Make.BASE, "a", "un(x,a)=s(x)");
        stepsBy(Make.BASE, "un(b,b)", "plus(x,a,y)=s(x)");
    }

    private static void sameOperatorAlone() {
        Check.sentence("left having an ac OPERATOR and what stands there, too");
        stepsBy(TWO_SUMS, "r(a,b,d)", "p(a,x)=x", "1 0 r(e,b,d)");
        stepsBy(TWO_SUMS, "p(a,b,d)", "r(a,b)=d");
        stepsBy(TWO_SUMS, "r(a,b,d)", "r(a,b)=d", "0 0 r(d,d)");
        stepsBy("free g 2;free a 0;free b 0;c k;", "g(a,b)", "g(a,a)=a");
        stepsBy("free g 2;free a 0;free b 0;c k;", "k(a,k(a,b))", "k(a,a)=b");
    }

    private static void rightWithOthers() {
        Check.sentence("right so filled together with the others comes there");
        stepsBy(Make.BASE, "plus(a,b,s(b))", "plus(a,b)=plus(b,b)", "0 0 plus(b,b,s(b))");
        stepsBy(Make.BASE, "plus(a,b,s(b))", "plus(a,b)=e", "0 0 s(b)");
        stepsBy(Make.BASE, "un(a,b,s(b))", "un(a,b)=un(b,e)", "0 0 un(b,e,s(b))");
        stepsBy(Make.BASE, "un(plus(a,b,s(b)),a)", "plus(a,b)=un(b,b)", "2 0 un(a,plus(s(b),un(b,b)))");
        stepsBy(Make.BASE, "un(plus(a,b,s(b)),a)", "plus(a,b,s(b))=un(b,b)", "2 0 un(a,b,b)");
    }

    private static void unlikeSteps() {
        Check.sentence("STEPS of a TERM: unlike ones (by PLACE, RULE or the TERM behind)");
        SumRewriter x = Make.with(Make.BASE, "un(a,a)", "m(x,x)", "plus(a,b)");
        Make.rules(x, "a=b", "a=b", "m(x,y)=s(y)", "plus(x,y)=s(a)");
        Make.only(x, 0);
        steps(x, 0, "1 0 un(a,b)", "2 0 un(a,b)");
        Make.only(x, 0, 1);
        steps(x, 0, "1 0 un(a,b)", "1 1 un(a,b)", "2 0 un(a,b)", "2 1 un(a,b)");
        Make.only(x, 2);
        steps(x, 1, "0 2 s(x)");
        Make.only(x, 3);
        steps(x, 2, "0 3 s(a)", "0 3 plus(a,s(a))", "0 3 plus(b,s(a))", "0 3 plus(a,b,s(a))",
                "1 3 plus(b,s(a))", "2 3 plus(a,s(a))");
    }

    private static void orderOfSteps() {
        Check.sentence("by PLACES, then by RULES, then by the ORDER of the whole TERM behind it");
        SumRewriter x = Make.with(Make.BASE, "m(a,un(x,s(a),b))");
        Make.rules(x, "un(x,y)=x", "a=e", "m(a,x)=x", "a=b", "un(x,s(y))=y");
        steps(x, 0, "0 2 un(x,b,s(a))",
                "1 1 m(e,un(x,b,s(a)))", "1 3 m(b,un(x,b,s(a)))",
                "2 0 m(x,a)", "2 0 m(a,b)", "2 0 m(a,s(a))", "2 0 m(a,un(x,b))", "2 0 m(a,un(x,s(a)))", "2 0 m(a,un(b,s(a)))",
                "2 4 m(a,a)", "2 4 m(a,un(x,a))", "2 4 m(a,un(a,b))",
                "6 1 m(a,un(x,b,s(e)))", "6 3 m(a,un(x,b,s(b)))");
    }

    private static void stepsTooGreat() {
        Check.sentence("such as are TOO GREAT .. are left out");
        SumRewriter x = Make.with(Make.BASE, Make.deep(18, "a"), Make.deep(19, "a"), "plus(a,b,b,b,b)", "plus(a,b,b,b,b,b)",
                "un(a,plus(a,b,b,b,b,b))", "m(a," + Make.deep(17, "b") + ")");
        Make.rules(x, "a=s(a)", "a=plus(a,b)", "s(s(a))=s(b)", "plus(a,x)=plus(a,a,x)");
        Make.only(x, 0);
        steps(x, 0, "18 0 " + Make.deep(19, "a"));
        steps(x, 1);
        steps(x, 5);
        Make.only(x, 1);
        steps(x, 2, "1 1 plus(a,b,b,b,b,b)");
        steps(x, 3);
        steps(x, 4, "1 1 un(plus(a,b),plus(a,b,b,b,b,b))");
        steps(x, 0);
        Make.only(x, 2);
        steps(x, 1, "17 2 " + Make.deep(18, "b"));
        Make.only(x, 3);
        steps(x, 2, "0 3 plus(a,a,b,b,b,b)", "1 3 plus(a,a,b,b,b,b)");
        steps(x, 3);
    }

    private static void stepsThatChangeNothing() {
        Check.sentence("such as change nothing, are left out");
        SumRewriter x = Make.with(Make.BASE, "plus(a,b)", "m(a,b)", "a", "un(a,a,b)");
        Make.rules(x, "plus(x,y)=plus(y,x)", "m(x,y)=m(y,x)", "a=a", "un(x,x)=un(x,x)", "un(x,y)=un(x,x)");
        Make.only(x, 0, 1, 2, 3);
        for (int t = 0; t < 4; t++) {
            steps(x, t);
        }
        Make.only(x, 4);
        steps(x, 3, "0 4 un(a,a)", "0 4 un(b,b)", "0 4 un(a,a,a)", "0 4 un(a,b,b)", "0 4 un(a,a,a,a)", "0 4 un(a,a,b,b)");
    }

    /** The first term has 180 + 4 * 4 + 3 steps, the second 180 + 5 * 4, the third 180 + 3 * 4 + 3 * 3, the last none. */
    private static SumRewriter aroundTwoHundred() {
        SumRewriter x = Make.with("free a 0;free b 0;free d 0;free f 0;free h 0;free t 0;free i 0;free s 1;free g 2;ac un;var x;var y;",
                "g(un(a,b,d,f,h),g(t,g(t,g(t,g(t,i)))))", "g(un(a,b,d,f,h),g(t,g(t,g(t,g(t,t)))))",
                "g(un(a,b,d,f,h),g(t,g(t,g(t,g(i,g(i,i))))))", "a");
        return Make.rules(x, "un(x,y)=s(x)", "t=a", "t=b", "t=d", "t=f", "i=a", "i=b", "i=d");
    }

    private static void twoHundredSteps() {
        Check.sentence("With more than 200 STEPS .. it is TOO MUCH");
        SumRewriter x = aroundTwoHundred();
        Edge.answers("199", x, y -> y.steps(0), 199);
        Edge.answers("200", x, y -> y.steps(1), 200);
        Edge.answers("the last of 200", x, y -> y.stepAt(1, 199, 0) * 10 + y.stepAt(1, 199, 1), 154);
        Edge.refused("201", EdgesOfSteps::aroundTwoHundred, y -> y.steps(2), Edge.STATE);
        Edge.refused("a step of 201", EdgesOfSteps::aroundTwoHundred, y -> y.step(2, 0), Edge.STATE);
        Edge.refused("where one of 201 is", EdgesOfSteps::aroundTwoHundred, y -> y.stepAt(2, 0, 0), Edge.STATE);
        Edge.refused("a walk from 201", EdgesOfSteps::aroundTwoHundred, y -> y.walk(2), Edge.STATE);
        Edge.refused("the 201st of 200", EdgesOfSteps::aroundTwoHundred, y -> y.step(1, 200), Edge.NO_SUCH);
        Edge.answers("which are normal", x, y -> y.count(6), -1);
        x.turn(7, false);
        Edge.answers("198 then", x, y -> y.steps(2), 198);
        Edge.answers("which are normal then", x, y -> y.count(6), 8);
    }

    private static SumRewriter oneRule() {
        SumRewriter x = Make.with(MANY, "m(plus(a,a,a,a,b,d),e)", "m(plus(a,a,b,d),plus(a,a,b))", "m(plus(a,a,a,a,b,d),f)");
        return Make.rules(x, FOUR + "=" + TELL, TWICE + "=" + TELL);
    }

    private static void twoHundredAtOnePlace() {
        Check.sentence("With more than 200 STEPS .. it is TOO MUCH (at one PLACE by one RULE)");
        SumRewriter x = oneRule();
        Edge.answers("199", x, y -> y.atTop(0, 1), 199);
        Edge.answers("200", x, y -> y.atTop(1, 0), 200);
        Edge.refused("201", EdgesOfSteps::oneRule, y -> y.atTop(2, 1), Edge.STATE);
        Make.only(x, 0);
        Edge.answers("200 in all", x, y -> y.steps(1), 200);
        Make.only(x, 1);
        Edge.answers("199 in all", x, y -> y.steps(0), 199);
        Edge.answers("201 in all", x, y -> y.steps(2), Edge.STATE);
    }

    // ---- what is reached ----

    private static void normalOnes() {
        Check.sentence("NORMAL: without STEPS");
        SumRewriter x = Make.with(Make.BASE, "a", "b", "plus(b,s(b))", "un(b,s(b),a)");
        Make.rules(x, "a=e", "un(x,y)=un(y,x)");
        Check.due("normal ones", x.count(6), 6);
        x.turn(0, false);
        Check.due("all, by a rule that changes nothing", x.count(6), 15);
        Check.due("steps of none", x.walk(1), 0);
    }

    /** Two digits counted down: from g(i,j) it is 7 * i + j steps to g(t,t). */
    private static SumRewriter countdown() {
        SumRewriter x = Make.with("free a 0;free b 0;free d 0;free f 0;free h 0;free t 0;free s 1;free g 2;ac un;var x;var y;",
                "g(" + Make.deep(5, "t") + "," + Make.deep(4, "t") + ")", "g(" + Make.deep(5, "t") + "," + Make.deep(5, "t") + ")",
                "g(" + Make.deep(5, "t") + "," + Make.deep(6, "t") + ")", "un(a,b,d,f,h,t)");
        return Make.rules(x, "g(x,s(y))=g(x,y)", "g(s(x),t)=g(x," + Make.deep(6, "t") + ")", "g(t,t)=un(a,b,d,f,h,t)", "un(x,y)=s(x)");
    }

    private static void fortySteps() {
        Check.sentence("WALK: the first STEP again and again till it is NORMAL, or 40 are done");
        SumRewriter x = Make.only(countdown(), 0, 1);
        Edge.answers("39 to a normal one", x, y -> y.walk(0), 39);
        Check.due("it is shown", Check.shown(x), "g(t,t)");
        Edge.answers("40 to a normal one", x, y -> y.walk(1), 40);
        Check.due("it is shown", Check.shown(x), "g(t,t)");
        Edge.answers("40 of 41", x, y -> y.walk(2), 40);
        Check.due("one short", Check.shown(x), "g(t,s(t))");
        SumRewriter z = Make.rules(Make.with(Make.BASE, "a", "b", "e"), "a=b", "b=a");
        Edge.answers("round and round", z, y -> y.walk(0), 40);
        Check.due("back again", Check.shown(z), "a");
        Edge.answers("of a normal one", z, y -> y.walk(2), 0);
        Check.due("itself", Check.shown(z), "e");
    }

    private static void notAskedBehindForty() {
        Check.sentence("what is there then is not asked for STEPS");
        SumRewriter x = countdown();
        Edge.answers("40, and there are too many", x, y -> y.walk(0), 40);
        Check.due("it is shown", Check.shown(x), "un(a,b,d,f,h,t)");
        Edge.refused("too many by 0", EdgesOfSteps::countdown, y -> y.walk(3), Edge.STATE);
        SumRewriter z = Make.with("free a 0;free b 0;free d 0;free f 0;free h 0;free t 0;free s 1;free g 2;ac un;var x;var y;",
                "g(" + Make.deep(5, "t") + "," + Make.deep(3, "t") + ")");
        Make.rules(z, "g(x,s(y))=g(x,y)", "g(s(x),t)=g(x," + Make.deep(6, "t") + ")", "g(t,t)=un(a,b,d,f,h,t)", "un(x,y)=s(x)");
        Edge.answers("too many behind 39", z, y -> y.walk(0), Edge.STATE);
        Check.due("nothing is shown", z.count(5), 0);
    }

    /** By one step 1 + 8 * 6, 1 + 7 * 7 and 1 + 10 * 5 are reached with so many rules. */
    private static SumRewriter chains() {
        SumRewriter x = Make.with("free a 0;free b 0;free d 0;free f 0;free h 0;free i 0;free j 0;free k 0;free g 2;",
                chain(8), chain(7), chain(10), "a", "b");
        return Make.rules(x, "a=b", "a=d", "a=f", "a=h", "a=i", "a=j", "a=k");
    }

    private static String chain(int n) {
        return "g(a,".repeat(n - 1) + "a" + ")".repeat(n - 1);
    }

    private static SumRewriter chainsBy(int rules) {
        SumRewriter x = chains();
        for (int r = rules; r < 7; r++) {
            x.turn(r, false);
        }
        return x;
    }

    private static void fiftyReached() {
        Check.sentence("REACHED by n: .. with more than 50 it is TOO MUCH");
        Edge.answers("49", chainsBy(6), y -> y.reach(0, 1, false), 49);
        Edge.answers("50", chainsBy(7), y -> y.reach(1, 1, false), 50);
        Edge.answers("50, normal ones", chainsBy(7), y -> y.reach(1, 1, true), 0);
        Edge.shows("the last of 50", chainsBy(7), y -> y.reached(1, 1, false, 49), "g(k," + chain(6) + ")");
        Edge.refused("no 51st", () -> chainsBy(7), y -> y.reached(1, 1, false, 50), Edge.NO_SUCH);
        Edge.Setup five = () -> chainsBy(5);
        Edge.refused("51", five, y -> y.reach(2, 1, false), Edge.STATE);
        Edge.refused("51, normal ones", five, y -> y.reach(2, 1, true), Edge.STATE);
        Edge.refused("one of 51", five, y -> y.reached(2, 1, false, 0), Edge.STATE);
        Edge.refused("57", () -> chainsBy(7), y -> y.reach(0, 1, false), Edge.STATE);
        Edge.answers("from 51 by 0", chainsBy(5), y -> y.reach(2, 0, false), 1);
    }

    private static SumRewriter steps4() {
        SumRewriter x = Make.with(Make.BASE, Make.deep(6, "a"), "a");
        return Make.rules(x, "s(x)=x");
    }

    private static void distances() {
        Check.sentence("REACHED by n (0 to 4): all TERMS by at most n STEPS, itself too");
        SumRewriter x = steps4();
        for (int n = 0; n <= 4; n++) {
            int m = n;
            Edge.answers("by " + n, x, y -> y.reach(0, m, false), n + 1);
            Edge.shows("the least by " + n, x, y -> y.reached(0, m, false, 0), Make.deep(6 - n, "a"));
            Edge.shows("itself by " + n, x, y -> y.reached(0, m, false, m), Make.deep(6, "a"));
            Edge.answers("a by " + n, x, y -> y.reach(1, m, false), 1);
        }
        SumRewriter back = Make.rules(Make.with(Make.BASE, "a", "m(a,a)"), "a=b", "b=a");
        int[] both = {1, 2, 3, 3, 3};
        for (int n = 0; n <= 4; n++) {
            int m = n;
            Edge.answers("there and back by " + n, back, y -> y.reach(0, m, false), Math.min(2, n + 1));
            Edge.answers("both there and back by " + n, back, y -> y.reach(1, m, false), both[n]);
        }
        Edge.outside("n", EdgesOfSteps::steps4, 5, (y, n) -> y.reach(0, n, false), Edge.ARGUMENT);
        Edge.outside("n, normal", EdgesOfSteps::steps4, 5, (y, n) -> y.reach(0, n, true), Edge.ARGUMENT);
        Edge.outside("n of the k-th", EdgesOfSteps::steps4, 5, (y, n) -> y.reached(0, n, false, 0), Edge.ARGUMENT);
        Edge.outside("n of meet", EdgesOfSteps::steps4, 5, (y, n) -> y.meet(0, 0, n), Edge.ARGUMENT);
    }

    /** s(s(a)) comes to a, a to one with too many steps. */
    private static SumRewriter behindTwo() {
        SumRewriter x = Make.with("free a 0;free b 0;free d 0;free f 0;free h 0;free t 0;free g 1;free s 1;ac un;var x;var y;",
                "g(g(a))", "un(a,b,d,f,h,t)", "b");
        return Make.rules(x, "g(a)=t", "g(t)=un(a,b,d,f,h,t)", "un(x,y)=s(x)");
    }

    private static void notAskedAtTheEnd() {
        Check.sentence("of those by n STEPS none is asked for its STEPS, but where NORMAL ones are told");
        SumRewriter x = behindTwo();
        Edge.answers("by 1", x, y -> y.reach(0, 1, false), 2);
        Edge.answers("by 1, normal", x, y -> y.reach(0, 1, true), 0);
        Edge.answers("by 2", x, y -> y.reach(0, 2, false), 3);
        Edge.refused("by 2, normal", EdgesOfSteps::behindTwo, y -> y.reach(0, 2, true), Edge.STATE);
        Edge.refused("by 2, a normal one", EdgesOfSteps::behindTwo, y -> y.reached(0, 2, true, 0), Edge.STATE);
        Edge.refused("by 3", EdgesOfSteps::behindTwo, y -> y.reach(0, 3, false), Edge.STATE);
        Edge.shows("by 2, the last", x, y -> y.reached(0, 2, false, 2), "un(a,b,d,f,h,t)");
        Edge.answers("by 0", x, y -> y.reach(1, 0, false), 1);
        Edge.refused("by 0, normal", EdgesOfSteps::behindTwo, y -> y.reach(1, 0, true), Edge.STATE);
        Edge.answers("b by 4, normal", x, y -> y.reach(2, 4, true), 1);
    }

    private static void leastMeeting() {
        Check.sentence("MEET of two by n: the least k (0 to n) such that some TERM is REACHED by k from both; none");
        SumRewriter x = Make.with(Make.BASE, Make.deep(4, "a"), Make.deep(4, "b"), Make.deep(3, "a"), "a", Make.deep(5, "a"), "x");
        Make.rules(x, "s(x)=x");
        Edge.answers("one and the same by 0", x, y -> y.meet(0, 0, 0), 0);
        Edge.answers("by 4", x, y -> y.meet(0, 0, 4), 0);
        Edge.answers("one apart by 0", x, y -> y.meet(0, 2, 0), -1);
        Edge.answers("one apart by 1", x, y -> y.meet(0, 2, 1), 1);
        Edge.answers("the other way", x, y -> y.meet(2, 0, 4), 1);
        Edge.answers("four apart by 3", x, y -> y.meet(0, 3, 3), -1);
        Edge.answers("four apart by 4", x, y -> y.meet(0, 3, 4), 4);
        Edge.answers("five apart by 4", x, y -> y.meet(4, 3, 4), -1);
        Edge.answers("never", x, y -> y.meet(0, 1, 4), -1);
        Make.rules(x, "b=a");
        Edge.answers("by the fifth only", x, y -> y.meet(1, 3, 4), -1);
        Edge.answers("both have to go", x, y -> y.meet(0, 1, 4), 1);
    }

    private static SumRewriter meeting() {
        SumRewriter x = Make.with(Make.BASE, "plus(a,b,s(a),s(b),s(s(a)),s(s(b)))", "s(plus(a,b,s(a),s(b),s(s(a)),s(s(b))))",
                "b", "s(b)", "m(b,b)");
        return Make.rules(x, "plus(x,y,z)=m(x,y)", "s(x)=x", "m(x,x)=b");
    }

    private static void tooMuchAheadOfMeeting() {
        Check.sentence("TOO MUCH only where that comes ahead of meeting");
        SumRewriter x = meeting();
        Edge.answers("met by 0", x, y -> y.meet(0, 0, 4), 0);
        Edge.answers("not met by 0", x, y -> y.meet(0, 2, 0), -1);
        Edge.refused("too much by 1", EdgesOfSteps::meeting, y -> y.meet(0, 2, 1), Edge.STATE);
        Edge.refused("the other way", EdgesOfSteps::meeting, y -> y.meet(2, 0, 1), Edge.STATE);
        Edge.refused("by 4", EdgesOfSteps::meeting, y -> y.meet(0, 2, 4), Edge.STATE);
        Make.only(x, 1);
        Edge.answers("s(..) and it without that rule", x, y -> y.meet(1, 0, 4), 1);
        SumRewriter z = Make.with("free a 0;free b 0;free d 0;free f 0;free h 0;free t 0;free g 2;free s 1;ac un;var x;var y;",
                "s(g(t,t))", "g(t,t)", "s(s(g(t,t)))", "b");
        Make.rules(z, "s(x)=x", "g(t,t)=un(a,b,d,f,h,t)", "un(x,y)=s(x)");
        Edge.answers("met by 1, ahead of too much by 2", z, y -> y.meet(0, 1, 4), 1);
        Edge.answers("met by 2, too much by 2 from one of them", z, y -> y.meet(2, 1, 4), Edge.STATE);
        Edge.answers("not met by 1", z, y -> y.meet(1, 3, 1), -1);
        Edge.answers("too much by 2", z, y -> y.meet(1, 3, 2), Edge.STATE);
        Edge.answers("51 ahead of meeting", chainsBy(5), y -> y.meet(2, 4, 1), Edge.STATE);
        Edge.answers("50 are not", chainsBy(7), y -> y.meet(1, 4, 1), -1);
    }

    // ---- could, shown, exceptions ----

    private static void could(String signature, String term, int want, String... rules) {
        SumRewriter x = Make.rules(Make.with(signature, term), rules);
        Edge.answers("could of " + term, x, y -> y.about(0, 7), want);
        for (int r = 0; r < rules.length; r++) {
            x.turn(r, false);
        }
        Edge.answers("could of " + term + " with none on", x, y -> y.about(0, 7), 0);
    }

    private static void couldOfFreeAndPairs() {
        Check.sentence("COULD: left's own OPERATOR is not ac: the TERM's own one is that");
        could(Make.BASE, "s(a)", 5, "s(b)=a", "a=b", "s(s(x))=x", "m(x,y)=x");
        could(Make.BASE, "m(a,a)", 8, "s(b)=a", "a=b", "s(s(x))=x", "m(x,b)=x");
        could(Make.BASE, "a", 2, "s(a)=a", "a=b", "b=a", "m(a,a)=a");
        could(Make.BASE, "x", 0, "s(x)=a", "a=b", "m(x,x)=a");
        could(Make.BASE, "un(a,s(a))", 0, "s(x)=a", "a=b", "m(x,x)=a");
    }

    private static void couldOfSumsWithUnit() {
        Check.sentence("COULD: it is ac with a unit: always");
        for (String term : new String[] {"x", "a", "e", "s(a)", "m(a,b)", "plus(a,b)", "un(a,b)"}) {
            could(Make.BASE, term, 3, "plus(x,y)=a", "plus(s(a),s(b),s(e))=a");
        }
        could("free e 0;ac p unit e;free a 0;free s 1;var x;", "s(a)", 1, "p(x,a)=a", "e=a");
    }

    private static void couldOfSumsWithout() {
        Check.sentence("COULD: ac without: the TERM's own one is that, and of each OPERATOR that is not ac as many PARTS of its own"
                + " with it at least as left");
        String[] rules = {"un(s(x),s(y))=a", "un(x,y)=a", "un(a,x)=a", "un(m(x,y),s(x))=a", "un(plus(x,y),plus(a,z))=a", "un(a,a,a)=a"};
        could(Make.BASE, "un(s(a),b)", 2 + 16, rules);
        could(Make.BASE, "un(s(a),s(b))", 1 + 2 + 16, rules);
        could(Make.BASE, "un(s(a),s(b),s(e))", 1 + 2 + 16, rules);
        could(Make.BASE, "un(s(a),m(a,a))", 2 + 8 + 16, rules);
        could(Make.BASE, "un(m(s(a),s(a)),m(a,a))", 2 + 16, rules);
        could(Make.BASE, "un(a,a)", 2 + 4 + 16, rules);
        could(Make.BASE, "un(a,a,a)", 2 + 4 + 16 + 32, rules);
        could(Make.BASE, "un(a,a,a,a)", 2 + 4 + 16 + 32, rules);
        could(Make.BASE, "un(x,y)", 2 + 16, rules);
        could(Make.BASE, "plus(s(a),s(b),a,a)", 0, rules);
        could(Make.BASE, "s(un(s(a),s(b)))", 0, rules);
        could(Make.BASE, "a", 0, rules);
    }

    private static void shown() {
        Check.sentence("SHOWN: .. that which was told last so; nothing at first");
        SumRewriter x = new SumRewriter();
        Check.due("bytes at first", x.count(5), 0);
        Check.due("a byte at first", x.octet(0), -1);
        Edge.answers("keep at first", x, y -> y.keep(), Edge.STATE);
        Edge.taken(x, "signature", Make.BASE, 7);
        Edge.taken(x, "term", "m(s(a),s(b))", 0);
        Edge.taken(x, "rule", "s(x)=x", 0);
        Check.due("bytes behind term and rule", x.count(5), 0);
        String[] last = {"m(s(a),s(b))", "s(a)", "x", "m(a,s(b))", "m(a,b)", "m(b,s(a))", "m(s(a),s(b))"};
        Edge.shows("show", x, y -> y.show(0), last[0]);
        Edge.shows("place", x, y -> y.place(0, 1), last[1]);
        Edge.shows("side", x, y -> y.side(0, true), last[2]);
        Edge.shows("step", x, y -> y.step(0, 0), last[3]);
        x.walk(0);
        Check.due("walk", Check.shown(x), last[4]);
        Edge.shows("reached", x, y -> y.reached(0, 1, false, 1), last[5]);
        Edge.shows("fill", x, y -> y.fill(0, 0, 0), last[6]);
        Edge.answers("keep", x, y -> y.keep(), 0);
        for (int k = 0; k < 7; k++) {
            Edge.answers("what shows nothing", x, y -> y.steps(0) + y.matches(0, 0) + y.stepAt(0, 0, 0) + y.reach(0, 4, true)
                    + y.meet(0, 0, 4) + y.rank(0) + y.order(0, 0) + y.about(0, 0) + y.atTop(0, 0), 2 + 1 + 1 + 1 + 4);
        }
        Check.due("it stays", Check.shown(x), last[6]);
        Check.due("bytes", x.count(5), 12);
    }

    private static void firstException() {
        Check.sentence("Of several exceptions the one told first is thrown .. (TOO MUCH is told ahead of NoSuchElementException.)");
        Edge.Setup many = EdgesOfSteps::many;
        Edge.refused("operator", many, x -> x.operator(9, 4), Edge.INDEX);
        Edge.refused("about", many, x -> x.about(6, 9), Edge.INDEX);
        Edge.refused("place", many, x -> x.place(6, 99), Edge.INDEX);
        Edge.refused("matches", many, x -> x.matches(2, 6), Edge.INDEX);
        Edge.refused("bound: index", many, x -> x.bound(2, 3, -1, 5), Edge.INDEX);
        Edge.refused("bound: too much", many, x -> x.bound(2, 3, -1, 0), Edge.STATE);
        Edge.refused("bound: too much, and not in the pattern", many, x -> x.bound(4, 1, 0, 3), Edge.NO_SUCH);
        Edge.refused("fill", many, x -> x.fill(3, 0, 6), Edge.INDEX);
        Edge.refused("join: index", many, x -> x.join(0, 1, 6), Edge.INDEX);
        Edge.refused("join: argument", many, x -> x.join(0, 5, 5), Edge.ARGUMENT);
        Edge.Setup steps = EdgesOfSteps::aroundTwoHundred;
        Edge.refused("step: index", steps, x -> x.step(4, 999), Edge.INDEX);
        Edge.refused("step: too much", steps, x -> x.step(2, 999), Edge.STATE);
        Edge.refused("stepAt: too much", steps, x -> x.stepAt(2, 999, 2), Edge.STATE);
        Edge.refused("stepAt: no such", steps, x -> x.stepAt(0, 999, 2), Edge.NO_SUCH);
        Edge.refused("atTop", steps, x -> x.atTop(4, 0), Edge.INDEX);
        Edge.refused("reach: index", steps, x -> x.reach(4, 5, true), Edge.INDEX);
        Edge.refused("reach: argument", steps, x -> x.reach(2, 5, true), Edge.ARGUMENT);
        Edge.refused("reach: too much", steps, x -> x.reach(2, 4, true), Edge.STATE);
        Edge.refused("reached: argument", steps, x -> x.reached(2, -1, false, -1), Edge.ARGUMENT);
        Edge.refused("reached: too much", steps, x -> x.reached(2, 1, false, -1), Edge.STATE);
        Edge.refused("meet: index", steps, x -> x.meet(2, 4, 5), Edge.INDEX);
        Edge.refused("meet: argument", steps, x -> x.meet(2, 3, 5), Edge.ARGUMENT);
        Edge.refused("meet: too much", steps, x -> x.meet(2, 3, 4), Edge.STATE);
    }

    private static void calls512() {
        Check.sentence("An object is used for at most 512 calls after it has been made");
        SumRewriter x = new SumRewriter();
        x.feed(0x66726565, 0x20612030, 0x3b667265, 0x65207320, 0x313b7661);
        x.feed(0x7220783b, 0, 0, 0, 0);
        x.end(24);
        x.signature();
        x.feed(0x73287328, 0x61292920, 0, 0, 0);
        x.end(7);
        x.term();
        x.feed(0x73287829, 0x3d780000, 0, 0, 0);
        x.end(6);
        x.rule();
        for (int call = 11; call < 511; call += 2) {
            Check.due("walk, call " + call, x.walk(0), 2);
            Check.due("show, call " + (call + 1), x.show(0), 7);
        }
        Check.due("call 511", x.walk(0), 2);
        Check.due("call 512", x.keep(), 1);
    }
}
