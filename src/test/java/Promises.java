import java.util.concurrent.Callable;

/** For each promise of the document ordinary calls, the edges that it names, and wrong ones. */
public final class Promises {
    private static final String INDEX = "throws.IndexOutOfBoundsException";
    private static final String ARGUMENT = "throws.IllegalArgumentException";
    private static final String STATE = "throws.IllegalStateException";
    private static final String NO_SUCH = "throws.NoSuchElementException";

    private static int promise = 0;

    private Promises() {
    }

    public static void main(String[] args) {
        promise1New();
        promise2Feed();
        promise3End();
        promise4Signature();
        promise5Term();
        promise6Rule();
        promise7Fault();
        promise8Turn();
        promise9Operator();
        promise10About();
        promise11Order();
        promise12Rank();
        promise13Show();
        promise14Place();
        promise15Side();
        promise16Matches();
        promise17Bound();
        promise18Fill();
        promise19Join();
        promise20Steps();
        promise21Step();
        promise22StepAt();
        promise23AtTop();
        promise24Walk();
        promise25Reach();
        promise26Reached();
        promise27Meet();
        promise28Keep();
        promise29Octet();
        promise30Count();
        Check.finish("Promises");
    }

    // ---- helpers ----

    private static void ask(String what, Callable<Object> call, Object want) {
        Check.ask("promise " + promise + ", " + what, call, want);
    }

    private static void askShown(SumRewriter x, String what, Callable<Object> call, Object want) {
        Check.due("promise " + promise + ", " + what, Check.show(x, call), want);
    }

    private static void askText(SumRewriter x, String sort, String text, Object want, int fault) {
        Check.text(x, text);
        ask(sort + " " + text, () -> sort.equals("signature") ? x.signature() : sort.equals("term") ? x.term() : x.rule(), want);
        ask("fault of " + text, () -> x.fault(), fault);
        ask("the tape behind " + text, () -> x.end(1), false);
    }

    // ---- the promises ----

    private static void promise1New() {
        promise = 1;
        SumRewriter x = new SumRewriter();
        for (int what = 0; what <= 8; what++) {
            int w = what;
            ask("count(" + what + ")", () -> x.count(w), 0);
        }
        ask("fault", () -> x.fault(), -1);
        ask("octet", () -> x.octet(0), -1);
        ask("rank", () -> x.rank(0), -1);
        ask("keep", () -> x.keep(), STATE);
        ask("operator", () -> x.operator(0, 0), INDEX);
        ask("about", () -> x.about(0, 0), INDEX);
        ask("turn", () -> x.turn(0, true), INDEX);
        ask("end(0)", () -> x.end(0), true);
        ask("end(1)", () -> x.end(1), false);
        ask("signature of nothing", () -> x.signature(), 0);
        ask("term of nothing", () -> x.term(), ARGUMENT);
        ask("NONE", () -> SumRewriter.NONE, -1);
    }

    private static void promise2Feed() {
        promise = 2;
        SumRewriter x = new SumRewriter();
        for (int i = 1; i <= 20; i++) {
            ask("feed " + i, () -> x.feed(0x20202020, 0x20202020, 0x20202020, 0x20202020, 0x20202020), 20 * i);
        }
        ask("feed beyond 400", () -> x.feed(1, 2, 3, 4, 5), -1);
        ask("end(400)", () -> x.end(400), true);
        ask("end(401)", () -> x.end(401), false);
        ask("400 blanks", () -> x.signature(), 0);
        for (int i = 1; i <= 20; i++) {
            x.feed(0x20202020, 0x20202020, 0x20202020, 0x20202020, 0x20202020);
        }
        x.end(381);
        ask("feed at 381", () -> x.feed(0, 0, 0, 0, 0), -1);
        x.end(380);
        // "       free a 0;var x;", twenty bytes: the last four are "r x;".
        ask("feed at 380", () -> x.feed(0x20202066, 0x72656520, 0x61203020, 0x3b766172, 0x2078203b), 400);
        ask("a text at the tape's end", () -> x.signature(), 1);
        ask("variables", () -> x.count(1), 1);
        ask("bytes of a number, the highest first", () -> x.feed(0x61ffffff, -1, -1, -1, -1), 20);
        x.end(1);
        ask("term a", () -> x.term(), 0);
        x.feed(-1, -1, -1, -1, -1);
        ask("bytes 255", () -> x.term(), ARGUMENT);
        ask("their fault", () -> x.fault(), 0);
    }

    private static void promise3End() {
        promise = 3;
        SumRewriter x = new SumRewriter();
        ask("end(-1)", () -> x.end(-1), false);
        ask("end(MIN)", () -> x.end(Integer.MIN_VALUE), false);
        ask("end(0) of none", () -> x.end(0), true);
        x.feed(0x76617220, 0x783b2066, 0x72656520, 0x6120303b, 0x3b3b3b3b);
        ask("end(21)", () -> x.end(21), false);
        ask("end(20)", () -> x.end(20), true);
        ask("end(MAX)", () -> x.end(Integer.MAX_VALUE), false);
        ask("end(6)", () -> x.end(6), true);
        ask("end(7) then", () -> x.end(7), false);
        ask("what is left is var x;", () -> x.signature(), 0);
        ask("variables", () -> x.count(1), 1);
        ask("the tape is used up", () -> x.end(1), false);
        x.feed(0x78202020, 0, 0, 0, 0);
        ask("end(1)", () -> x.end(1), true);
        ask("feed behind", () -> x.feed(0x20202020, 0x20202020, 0x20202020, 0x20202020, 0x20202020), 21);
        ask("term x", () -> x.term(), 0);
    }

    private static void promise4Signature() {
        promise = 4;
        SumRewriter x = new SumRewriter();
        askText(x, "signature", "", 0, -1);
        askText(x, "signature", " \t\n", 0, -1);
        askText(x, "signature", Make.BASE, 7, -1);
        Check.term(x, "s(a)");
        Check.rule(x, "s(x)=x");
        x.show(0);
        askText(x, "signature", "free a 0; free a 0;", ARGUMENT, 15);
        ask("the old one stays", () -> x.count(0), 7);
        ask("its terms stay", () -> x.count(2), 1);
        ask("its rules stay", () -> x.count(3), 1);
        askShown(x, "what is shown stays", () -> x.count(5), "s(a)");
        askText(x, "signature", Make.BASE, 7, -1);
        ask("no terms", () -> x.count(2), 0);
        ask("no rules", () -> x.count(3), 0);
        ask("none on", () -> x.count(4), 0);
        ask("nothing shown", () -> x.count(5), 0);
        ask("nothing to keep", () -> x.keep(), STATE);
        askText(x, "signature", "free a0;free\tb\n3;", 2, -1);
        askText(x, "signature", "free abcdef 3;c bcdefg;ac cdefgh;var d;", 3, -1);
        askText(x, "signature", "free abcdefg 3;", ARGUMENT, 5);
        askText(x, "signature", "free a 0;\rfree b 0;", ARGUMENT, 9);
        String ten = "free a 0;free b 1;free d 2;free f 3;c g;c h;ac i;ac j unit a;ac k unit a;free l 0;";
        askText(x, "signature", ten, 10, -1);
        askText(x, "signature", ten + "var m;var n;var o;var p;var q;", 10, -1);
        ask("5 variables", () -> x.count(1), 5);
        askText(x, "signature", ten + " free m 0;", ARGUMENT, ten.length() + 1);
        askText(x, "signature", ten + "c m;", ARGUMENT, ten.length());
        askText(x, "signature", ten + "ac m;", ARGUMENT, ten.length());
        askText(x, "signature", ten + "foo m;", ARGUMENT, ten.length());
        askText(x, "signature", "var m;var n;var o;var p;var q;var r;", ARGUMENT, 30);
        askText(x, "signature", "var m;var n;var o;var p;var q;free r 0;", 1, -1);
        for (String word : new String[] {"free", "c", "ac", "unit", "var"}) {
            askText(x, "signature", "var " + word + ";", ARGUMENT, 4);
            askText(x, "signature", "c " + word + ";", ARGUMENT, 2);
        }
        askText(x, "signature", "unit a;", ARGUMENT, 0);
        askText(x, "signature", "var x;c x;", ARGUMENT, 8);
        askText(x, "signature", "c x;var x;", ARGUMENT, 8);
        askText(x, "signature", "free a 0 free b 0;", ARGUMENT, 9);
        askText(x, "signature", "free a;", ARGUMENT, 6);
        askText(x, "signature", "free 0 a;", ARGUMENT, 5);
        askText(x, "signature", "free a 03;", ARGUMENT, 7);
        askText(x, "signature", "c k 2;", ARGUMENT, 4);
        askText(x, "signature", "c k unit a;", ARGUMENT, 4);
        askText(x, "signature", "ac p unit;", ARGUMENT, 9);
        askText(x, "signature", "ac p unit p;", ARGUMENT, 10);
        askText(x, "signature", "ac p unit e;free e 0;", ARGUMENT, 10);
        askText(x, "signature", "free e 1;ac p unit e;", ARGUMENT, 19);
        askText(x, "signature", "c e;ac p unit e;", ARGUMENT, 14);
        askText(x, "signature", "var e;ac p unit e;", ARGUMENT, 16);
        askText(x, "signature", "free e 0;ac p unit e e;", ARGUMENT, 21);
        askText(x, "signature", "free e 0;ac p unit e;ac q unit e;", 3, -1);
        askText(x, "signature", "var x;;", ARGUMENT, 6);
        askText(x, "signature", "var x", ARGUMENT, 5);
        askText(x, "signature", "var x  ", ARGUMENT, 7);
        askText(x, "signature", "var", ARGUMENT, 3);
        askText(x, "signature", "var ;", ARGUMENT, 4);
        askText(x, "signature", "free;", ARGUMENT, 4);
        askText(x, "signature", "c;", ARGUMENT, 1);
        askText(x, "signature", "ac ;", ARGUMENT, 3);
        askText(x, "signature", ";", ARGUMENT, 0);
        askText(x, "signature", "free e 0;ac p foo e;", ARGUMENT, 14);
        askText(x, "signature", "free e 0;ac p unit ;", ARGUMENT, 19);
        askText(x, "signature", "fre", ARGUMENT, 0);
        askText(x, "signature", "Free a 0;", ARGUMENT, 0);
        askText(x, "signature", "varx;", ARGUMENT, 0);
    }

    private static void promise5Term() {
        promise = 5;
        SumRewriter x = new SumRewriter();
        askText(x, "term", "a", ARGUMENT, 0);
        Check.signature(x, Make.BASE);
        askText(x, "term", "plus(b,a)", 0, -1);
        askText(x, "term", " plus ( a\t,plus(\ne,b ) ) ", 0, -1);
        askText(x, "term", "x", 1, -1);
        askText(x, "term", "plus(x,e)", 1, -1);
        askText(x, "term", "plus(e,e,e)", 2, -1);
        askText(x, "term", "e", 2, -1);
        askText(x, "term", "m(s(b),s(a))", 3, -1);
        askText(x, "term", "m(s(a),s(plus(e,b)))", 3, -1);
        askText(x, "term", "un(e,un(a,b),a)", 4, -1);
        askText(x, "term", "un(a,a,b,e)", 4, -1);
        askText(x, "term", "plus(a,un(b,plus(a,b)),plus(un(a,a),e))", 5, -1);
        askShown(x, "as it stands", () -> x.show(5), "plus(a,un(a,a),un(b,plus(a,b)))");
        askText(x, "term", "plus(a,a,a,a,a,a)", 6, -1);
        askText(x, "term", "plus(a,a,a,a,a,a,a)", STATE, -1);
        askText(x, "term", "plus(a,a,a,e,e,e,a,a,a)", 6, -1);
        askText(x, "term", "plus(plus(a,a,a,a),plus(a,a,a))", STATE, -1);
        askText(x, "term", "s(plus(a,a,a,a,a,a,b))", STATE, -1);
        askText(x, "term", "plus(a,a,a,a,a,a,a,a,a,a)", ARGUMENT, 22);
        askText(x, "term", "un(a,a,a,a,a,a)", 7, -1);
        askText(x, "term", "un(a,a,a,a,a,a,e)", STATE, -1);
        askText(x, "term", Make.deep(19, "a"), 8, -1);
        askText(x, "term", Make.deep(20, "a"), STATE, -1);
        askText(x, "term", Make.deep(20, "a") + ")", ARGUMENT, 61);
        askText(x, "term", Make.deep(132, "a"), STATE, -1);
        askText(x, "term", "s(".repeat(200), ARGUMENT, 400);
        askText(x, "term", "plus(" + Make.deep(15, "a") + ",b,a)", 9, -1);
        askText(x, "term", "plus(" + Make.deep(15, "a") + ",b,a,a)", 10, -1);
        askText(x, "term", "plus(" + Make.deep(15, "a") + ",b,a,a,a)", STATE, -1);
        askText(x, "term", "plus(" + Make.deep(15, "a") + ",b,a,a,e)", 10, -1);
        askText(x, "term", "", ARGUMENT, 0);
        askText(x, "term", "  ", ARGUMENT, 2);
        askText(x, "term", "a a", ARGUMENT, 2);
        askText(x, "term", "a,", ARGUMENT, 1);
        askText(x, "term", "a()", ARGUMENT, 1);
        askText(x, "term", "x(a)", ARGUMENT, 1);
        askText(x, "term", "s", ARGUMENT, 1);
        askText(x, "term", "s()", ARGUMENT, 2);
        askText(x, "term", "s(a", ARGUMENT, 3);
        askText(x, "term", "s(a,a)", ARGUMENT, 3);
        askText(x, "term", "m(a)", ARGUMENT, 3);
        askText(x, "term", "un(a)", ARGUMENT, 4);
        askText(x, "term", "un(a,)", ARGUMENT, 5);
        askText(x, "term", "free", ARGUMENT, 0);
        askText(x, "term", "s(0)", ARGUMENT, 2);
        askText(x, "term", "s(aa)", ARGUMENT, 2);
        askText(x, "term", "a=a", ARGUMENT, 1);
        ask("none of these is told", () -> x.count(2), 11);
        thirtyTerms();
    }

    private static void thirtyTerms() {
        SumRewriter x = Make.with(Make.BASE);
        for (int i = 0; i < 30; i++) {
            askText(x, "term", i < 20 ? Make.deep(i, "a") : Make.deep(i - 20, "b"), i, -1);
        }
        askText(x, "term", "x", STATE, -1);
        askText(x, "term", "s(b)", 21, -1);
        askText(x, "term", "q", ARGUMENT, 0);
        askText(x, "term", Make.deep(20, "a"), STATE, -1);
        ask("30 terms", () -> x.count(2), 30);
        ask("the last one by ORDER", () -> x.rank(29), 19);
        ask("as bits", () -> x.operator(0, 3), (1 << 20) - 1);
    }

    private static void promise6Rule() {
        promise = 6;
        SumRewriter x = Make.with(Make.BASE);
        askText(x, "rule", "s(x)=x", 0, -1);
        askText(x, "rule", " s ( x ) = x ", 1, -1);
        askText(x, "rule", "a=e", 2, -1);
        askText(x, "rule", "plus(x,y)=plus(y,x)", 3, -1);
        ask("on at first", () -> x.count(4), 15);
        ask("no terms told so", () -> x.count(2), 0);
        askText(x, "rule", "x=a", STATE, -1);
        askText(x, "rule", "plus(x,e)=a", STATE, -1);
        askText(x, "rule", "plus(e,e)=a", 4, -1);
        askText(x, "rule", "s(x)=y", STATE, -1);
        askText(x, "rule", "s(x)=plus(x,y)", STATE, -1);
        askText(x, "rule", Make.deep(20, "a") + "=a", STATE, -1);
        askText(x, "rule", "a=" + Make.deep(20, "a"), STATE, -1);
        askText(x, "rule", "plus(a,a,a,a,a,a,a)=a", STATE, -1);
        askText(x, "rule", "a=un(a,a,a,a,a,a,a)", STATE, -1);
        askText(x, "rule", Make.deep(19, "a") + "=" + Make.deep(19, "b"), 5, -1);
        askText(x, "rule", "s(x)", ARGUMENT, 4);
        askText(x, "rule", "s(x)=", ARGUMENT, 5);
        askText(x, "rule", "s(x)==x", ARGUMENT, 5);
        askText(x, "rule", "s(x)=x=x", ARGUMENT, 6);
        askText(x, "rule", "s(x)=q", ARGUMENT, 5);
        askText(x, "rule", "", ARGUMENT, 0);
        askText(x, "rule", "x=q", ARGUMENT, 2);
        askText(x, "rule", Make.deep(20, "a") + "=q", ARGUMENT, 62);
        askText(x, "rule", "a=b", 6, -1);
        askText(x, "rule", "a=b", 7, -1);
        askText(x, "rule", "a=b", STATE, -1);
        askText(x, "rule", "a=q", ARGUMENT, 2);
        ask("8 rules", () -> x.count(3), 8);
        ask("all on", () -> x.count(4), 255);
    }

    private static void promise7Fault() {
        promise = 7;
        SumRewriter x = new SumRewriter();
        ask("ahead of any", () -> x.fault(), -1);
        askText(x, "signature", "ac p", ARGUMENT, 4);
        ask("it stays", () -> x.fault(), 4);
        x.feed(1, 2, 3, 4, 5);
        ask("behind feed", () -> x.fault(), 4);
        x.end(0);
        askText(x, "signature", Make.BASE, 7, -1);
        askText(x, "term", "s(s(a)", ARGUMENT, 6);
        askText(x, "term", "x", 0, -1);
        askText(x, "rule", "s(y)=s(y", ARGUMENT, 8);
        askText(x, "rule", "x=y", STATE, -1);
        askText(x, "term", "plus(a,abcdefghij)", ARGUMENT, 7);
        ask("a call that is no text", () -> x.show(9), INDEX);
        ask("leaves it", () -> x.fault(), 7);
        askText(x, "term", "m(a,b;", ARGUMENT, 5);
        askText(x, "term", "\u00e9", ARGUMENT, 0);
        askText(x, "term", "plus\u0000(a,b)", ARGUMENT, 4);
    }

    private static void promise8Turn() {
        promise = 8;
        SumRewriter x = Make.with(Make.BASE, "a");
        Make.rules(x, "a=b", "a=s(a)");
        ask("on again", () -> x.turn(0, true), false);
        ask("off", () -> x.turn(0, false), true);
        ask("off again", () -> x.turn(0, false), false);
        ask("bits", () -> x.count(4), 2);
        ask("steps without it", () -> x.steps(0), 1);
        ask("on", () -> x.turn(0, true), true);
        ask("steps with it", () -> x.steps(0), 2);
        ask("turn(2)", () -> x.turn(2, true), INDEX);
        ask("turn(-1)", () -> x.turn(-1, false), INDEX);
    }

    private static void promise9Operator() {
        promise = 9;
        SumRewriter x = Make.with("free a 0;free f 1;free g 2;free h 3;c k;ac p unit a;ac q;var x;", "f(a)", "x", "k(f(x),q(x,x))");
        int[] kinds = {0, 0, 0, 0, 1, 2, 2};
        int[] parts = {0, 1, 2, 3, 2, 2, 2};
        int[] units = {-1, -1, -1, -1, -1, 0, -1};
        int[] terms = {1, 5, 0, 0, 4, 0, 4};
        for (int op = 0; op < 7; op++) {
            int o = op;
            ask("kind of " + op, () -> x.operator(o, 0), kinds[o]);
            ask("parts of " + op, () -> x.operator(o, 1), parts[o]);
            ask("unit of " + op, () -> x.operator(o, 2), units[o]);
            ask("terms with " + op, () -> x.operator(o, 3), terms[o]);
        }
        ask("what 4", () -> x.operator(0, 4), NO_SUCH);
        ask("what -1", () -> x.operator(0, -1), NO_SUCH);
        ask("operator 7", () -> x.operator(7, 0), INDEX);
        ask("operator -1", () -> x.operator(-1, 0), INDEX);
        ask("which comes first", () -> x.operator(7, 9), INDEX);
    }

    private static void promise10About() {
        promise = 10;
        SumRewriter x = Make.with(Make.BASE, "plus(a,m(s(x),plus(y,y,b)))", "y", "a", "un(s(a),s(b),x)", "un(s(a),x,y)");
        int[] want = {5, -1, 2, 9, 3, 3, 59, 0, 3};
        int[] variable = {-1, 1, 0, 1, 0, 2, 0, 0, 1};
        int[] constant = {0, -1, 0, 1, 0, 0, 1, 0, 0};
        for (int what = 0; what <= 8; what++) {
            int w = what;
            ask("about(0, " + what + ")", () -> x.about(0, w), want[w]);
            ask("about(1, " + what + ")", () -> x.about(1, w), variable[w]);
            ask("about(2, " + what + ")", () -> x.about(2, w), constant[w]);
        }
        ask("what 9", () -> x.about(0, 9), NO_SUCH);
        ask("what -1", () -> x.about(0, -1), NO_SUCH);
        ask("term 5", () -> x.about(5, 0), INDEX);
        ask("term -1", () -> x.about(-1, 0), INDEX);
        ask("which comes first", () -> x.about(5, 9), INDEX);
        Make.rules(x, "un(s(x),s(y))=a", "plus(x,s(y))=a", "a=b", "un(x,y)=a", "un(s(x),plus(x,y))=a", "m(x,y)=a", "un(a,x)=b");
        ask("could of a sum", () -> x.about(0, 7), 2);
        ask("could of a variable", () -> x.about(1, 7), 2);
        ask("could of a constant", () -> x.about(2, 7), 2 + 4);
        ask("could of un(x,s(a),s(b))", () -> x.about(3, 7), 1 + 2 + 8 + 16);
        ask("could of un(x,y,s(a))", () -> x.about(4, 7), 2 + 8 + 16);
        x.turn(1, false);
        x.turn(3, false);
        ask("could without those off", () -> x.about(4, 7), 16);
    }

    private static void promise11Order() {
        promise = 11;
        String[] sorted = {"x", "y", "z", "a", "b", "e", "s(x)", "s(a)", "s(s(a))", "m(x,y)", "m(x,a)", "m(y,a)",
            "plus(x,a)", "plus(a,a)", "plus(a,b)", "plus(x,x,x)", "plus(x,x,y)", "un(x,x)", "un(b,s(a))", "un(a,a,a)"};
        SumRewriter x = Make.with(Make.BASE, sorted);
        for (int i = 0; i < sorted.length; i++) {
            for (int j = 0; j < sorted.length; j++) {
                int a = i;
                int b = j;
                ask(sorted[i] + " and " + sorted[j], () -> x.order(a, b), Integer.compare(i, j));
            }
        }
        ask("order(20, 0)", () -> x.order(20, 0), INDEX);
        ask("order(0, 20)", () -> x.order(0, 20), INDEX);
        ask("order(0, -1)", () -> x.order(0, -1), INDEX);
    }

    private static void promise12Rank() {
        promise = 12;
        SumRewriter x = Make.with(Make.BASE, "un(a,b)", "b", "y", "s(y)", "x");
        int[] want = {4, 2, 1, 3, 0, -1};
        for (int k = 0; k < want.length; k++) {
            int i = k;
            ask("rank(" + k + ")", () -> x.rank(i), want[i]);
        }
        ask("rank(-1)", () -> x.rank(-1), -1);
        ask("rank(MIN)", () -> x.rank(Integer.MIN_VALUE), -1);
        ask("rank(MAX)", () -> x.rank(Integer.MAX_VALUE), -1);
    }

    private static void promise13Show() {
        promise = 13;
        SumRewriter x = Make.with(Make.BASE, "x", "un( b , s(plus(y,a,e)) ,un(a,a))", Make.deep(19, "b"));
        askShown(x, "a variable", () -> x.show(0), "x");
        askShown(x, "a sum", () -> x.show(1), "un(a,a,b,s(plus(y,a)))");
        askShown(x, "one of size 20", () -> x.show(2), Make.deep(19, "b"));
        ask("show(3)", () -> x.show(3), INDEX);
        ask("show(-1)", () -> x.show(-1), INDEX);
        ask("what was shown stays", () -> Check.shown(x), Make.deep(19, "b"));
        String six = "free abcdef 0;ac bcdefg;ac cdefgh;var defghi;";
        SumRewriter y = Make.with(six, "bcdefg(cdefgh(abcdef,abcdef,defghi),cdefgh(abcdef,abcdef,abcdef),"
                + "cdefgh(defghi,defghi,defghi),cdefgh(defghi,defghi,abcdef),abcdef,defghi)");
        askShown(y, "long names", () -> y.show(0), "bcdefg(defghi,abcdef,cdefgh(defghi,defghi,defghi),"
                + "cdefgh(defghi,defghi,abcdef),cdefgh(defghi,abcdef,abcdef),cdefgh(abcdef,abcdef,abcdef))");
    }

    private static void promise14Place() {
        promise = 14;
        SumRewriter x = Make.with(Make.BASE, "plus(s(y),m(un(a,b),s(x)),a)", "z");
        String[] want = {"plus(a,s(y),m(s(x),un(a,b)))", "a", "s(y)", "y", "m(s(x),un(a,b))", "s(x)", "x", "un(a,b)", "a", "b"};
        for (int k = 0; k < want.length; k++) {
            int i = k;
            askShown(x, "place " + k, () -> x.place(0, i), want[k]);
        }
        ask("place 10", () -> x.place(0, 10), NO_SUCH);
        ask("place -1", () -> x.place(0, -1), NO_SUCH);
        askShown(x, "of a variable", () -> x.place(1, 0), "z");
        ask("place 1 of it", () -> x.place(1, 1), NO_SUCH);
        ask("of no term", () -> x.place(2, 99), INDEX);
        ask("of term -1", () -> x.place(-1, 0), INDEX);
        ask("what was shown stays", () -> Check.shown(x), "z");
    }

    private static void promise15Side() {
        promise = 15;
        SumRewriter x = Make.with(Make.BASE);
        Make.rules(x, "plus(s(y),x,e)=un(y,x)", "a=plus(e,e)");
        askShown(x, "left of 0", () -> x.side(0, false), "plus(x,s(y))");
        askShown(x, "right of 0", () -> x.side(0, true), "un(x,y)");
        askShown(x, "left of 1", () -> x.side(1, false), "a");
        askShown(x, "right of 1", () -> x.side(1, true), "e");
        ask("side(2)", () -> x.side(2, false), INDEX);
        ask("side(-1)", () -> x.side(-1, true), INDEX);
    }

    private static void promise16Matches() {
        promise = 16;
        SumRewriter x = Make.with(Make.BASE, "plus(x,y)", "plus(a,b)", "a", "e", "plus(x,x)", "plus(a,a)", "un(x,y)",
                "un(a,a,b)", "m(x,s(y))", "m(s(a),s(b))", "plus(un(x,y),z)", "x", "plus(a,s(x),s(y))",
                "plus(a,b,s(a),s(b),s(s(a)))", "plus(x,y,z)", "m(plus(x,y),plus(x,z))", "m(a,b)");
        int[][] want = {{0, 1, 4}, {0, 2, 2}, {0, 3, 1}, {4, 5, 1}, {4, 1, 0}, {4, 3, 1}, {4, 2, 0}, {6, 7, 4},
            {6, 2, 0}, {6, 1, 0}, {0, 7, 2}, {8, 9, 2}, {10, 1, 0}, {10, 7, 4}, {11, 7, 1}, {2, 2, 1}, {2, 3, 0},
            {1, 0, 0}, {0, 0, 4}, {12, 13, 0}, {14, 13, 243}, {15, 16, 2}, {3, 3, 1}, {15, 3, 0}};
        for (int[] w : want) {
            ask("matches(" + w[0] + ", " + w[1] + ")", () -> x.matches(w[0], w[1]), w[2]);
        }
        ask("no such pattern", () -> x.matches(17, 0), INDEX);
        ask("no such term", () -> x.matches(0, 17), INDEX);
        ask("pattern -1", () -> x.matches(-1, 0), INDEX);
        SumRewriter y = Make.with("free a 0;free b 0;free d 0;free f 0;free e 0;c m;ac plus unit e;var x;var y;var z;var u;var w;",
                "m(plus(x,y,z,u),w)", "m(plus(a,a,b,b),plus(a,a,a,b,b))", "m(plus(x,y,z),plus(u,w))",
                "m(plus(a,a,a,b,d,f),e)", "plus(x,y,z,u,w)", "plus(a,a,b,d,e,f)", "plus(a,b,d)",
                "m(plus(u,y,x,z),plus(w,y))", "m(plus(f,f,f,f),plus(f,f,d,a,b))");
        ask("300 matches", () -> y.matches(0, 1), 300);
        ask("301 matches", () -> y.matches(7, 8), STATE);
        ask("302 matches", () -> y.matches(2, 3), STATE);
        ask("many more", () -> y.matches(4, 5), STATE);
        ask("125 of them", () -> y.matches(4, 6), 125);
        SumRewriter v = Make.with("free e 0;free i 0;ac p unit e;ac q unit i;free a 0;free b 0;var x;var y;",
                "q(x,p(x,y))", "q(a,a)", "a", "q(x,x,y)", "i", "p(x,q(a,y))", "e", "p(a,b)");
        ask("a unit within another sum", () -> v.matches(0, 1), 1);
        ask("q(x,p(x,y)) and a", () -> v.matches(0, 2), 0);
        ask("q(x,x,y) and a", () -> v.matches(3, 2), 1);
        ask("q(x,x,y) and q(a,a)", () -> v.matches(3, 1), 2);
        ask("q(x,p(x,y)) and i", () -> v.matches(0, 4), 1);
        ask("p(x,q(a,y)) and p(a,b)", () -> v.matches(5, 7), 1);
        ask("p(x,q(a,y)) and e", () -> v.matches(5, 6), 0);
    }

    private static void promise17Bound() {
        promise = 17;
        SumRewriter x = Make.with(Make.BASE, "plus(x,y)", "plus(b,a)", "m(x,s(z))", "m(s(a),s(y))", "plus(x,y,z)",
                "plus(a,b,s(a),s(b),s(s(a)),s(s(b)))", "a", "b");
        String[][] want = {{"a", "b"}, {"b", "a"}, {"e", "plus(a,b)"}, {"plus(a,b)", "e"}};
        for (int k = 0; k < 4; k++) {
            int i = k;
            askShown(x, "x of match " + k, () -> x.bound(0, 1, i, 0), want[k][0]);
            askShown(x, "y of match " + k, () -> x.bound(0, 1, i, 1), want[k][1]);
        }
        askShown(x, "x of m, first", () -> x.bound(2, 3, 0, 0), "s(y)");
        askShown(x, "z of m, first", () -> x.bound(2, 3, 0, 2), "a");
        askShown(x, "x of m, second", () -> x.bound(2, 3, 1, 0), "s(a)");
        askShown(x, "z of m, second", () -> x.bound(2, 3, 1, 2), "y");
        ask("match 4", () -> x.bound(0, 1, 4, 0), NO_SUCH);
        ask("match -1", () -> x.bound(0, 1, -1, 0), NO_SUCH);
        ask("a variable not in the pattern", () -> x.bound(0, 1, 0, 2), NO_SUCH);
        ask("a variable that is none", () -> x.bound(0, 1, 0, 3), INDEX);
        ask("variable -1", () -> x.bound(0, 1, 0, -1), INDEX);
        ask("no such pattern", () -> x.bound(8, 1, 0, 0), INDEX);
        ask("no such term", () -> x.bound(0, 8, 0, 0), INDEX);
        ask("no match at all", () -> x.bound(6, 7, 0, 0), NO_SUCH);
        ask("a pattern without variables", () -> x.bound(6, 6, 0, 0), NO_SUCH);
        ask("too much", () -> x.bound(4, 5, 0, 0), STATE);
        ask("too much ahead of no such match", () -> x.bound(4, 5, -1, 0), STATE);
        ask("no such variable ahead of too much", () -> x.bound(4, 5, 0, 3), INDEX);
        ask("what was shown stays", () -> Check.shown(x), "y");
    }

    private static void promise18Fill() {
        promise = 18;
        SumRewriter x = Make.with(Make.BASE, "plus(x,m(y,s(x)))", "plus(a,b)", "e", "y", "plus(a,a,a,a,a,x)", Make.deep(9, "x"), Make.deep(10, "a"), Make.deep(11, "a"));
        askShown(x, "x by plus(a,b)", () -> x.fill(0, 0, 1), "plus(a,b,m(y,s(plus(a,b))))");
        askShown(x, "x by e", () -> x.fill(0, 0, 2), "m(y,s(e))");
        askShown(x, "y by e", () -> x.fill(0, 1, 2), "plus(x,m(e,s(x)))");
        askShown(x, "x by y", () -> x.fill(0, 0, 3), "plus(y,m(y,s(y)))");
        askShown(x, "x by itself", () -> x.fill(0, 0, 0), "plus(x,m(y,s(x)),m(y,s(plus(x,m(y,s(x))))))");
        askShown(x, "z, which is not in it", () -> x.fill(0, 2, 1), "plus(x,m(y,s(x)))");
        askShown(x, "size 20", () -> x.fill(5, 0, 6), Make.deep(19, "a"));
        ask("size 21", () -> x.fill(5, 0, 7), STATE);
        ask("7 parts", () -> x.fill(4, 0, 1), STATE);
        askShown(x, "6 parts", () -> x.fill(4, 0, 3), "plus(y,a,a,a,a,a)");
        ask("no such term", () -> x.fill(8, 0, 0), INDEX);
        ask("no such variable", () -> x.fill(0, 3, 0), INDEX);
        ask("no such other", () -> x.fill(0, 0, 8), INDEX);
        ask("variable -1", () -> x.fill(0, -1, 0), INDEX);
        ask("what was shown stays", () -> Check.shown(x), "plus(y,a,a,a,a,a)");
        ask("nothing is told", () -> x.count(2), 8);
    }

    private static void promise19Join() {
        promise = 19;
        SumRewriter x = Make.with(Make.BASE, "plus(b,x)", "plus(a,s(a))", "e", "plus(a,a,a)", "plus(a,a,a,b)", Make.deep(9, "a"), Make.deep(8, "a"), Make.deep(8, "b"));
        askShown(x, "two sums", () -> x.join(5, 0, 1), "plus(x,a,b,s(a))");
        askShown(x, "by another operator", () -> x.join(6, 0, 1), "un(plus(x,b),plus(a,s(a)))");
        askShown(x, "with the unit", () -> x.join(5, 0, 2), "plus(x,b)");
        askShown(x, "two units", () -> x.join(5, 2, 2), "e");
        askShown(x, "no unit of that one", () -> x.join(6, 2, 2), "un(e,e)");
        askShown(x, "6 parts", () -> x.join(5, 3, 3), "plus(a,a,a,a,a,a)");
        ask("7 parts", () -> x.join(5, 3, 4), STATE);
        askShown(x, "size 20", () -> x.join(5, 5, 7), "plus(" + Make.deep(8, "b") + "," + Make.deep(9, "a") + ")");
        ask("size 21", () -> x.join(5, 5, 5), STATE);
        ask("free", () -> x.join(3, 0, 1), ARGUMENT);
        ask("c", () -> x.join(4, 0, 1), ARGUMENT);
        ask("no such operator", () -> x.join(7, 0, 1), INDEX);
        ask("operator -1", () -> x.join(-1, 0, 1), INDEX);
        ask("no such term", () -> x.join(5, 8, 1), INDEX);
        ask("no such other", () -> x.join(5, 0, 8), INDEX);
        ask("which comes first", () -> x.join(3, 0, 8), INDEX);
        ask("not ac ahead of too great", () -> x.join(4, 3, 4), ARGUMENT);
    }

    /** The first term has 200 steps with the rules 0 to 4, the second one 201 with all of them. */
    private static SumRewriter manySteps() {
        SumRewriter x = Make.with("free a 0;free b 0;free d 0;free f 0;free h 0;free t 0;free g 2;free s 1;ac un;var x;var y;",
                "g(un(a,b,d,f,h),g(t,g(t,g(t,g(t,t)))))", "g(un(a,b,d,f,h),g(t,g(t,t)))", "un(a,b,d,f,h)");
        Make.rules(x, "un(x,y)=s(x)", "t=a", "t=b", "t=d", "t=f", "t=h", "t=s(a)", "t=s(b)");
        return x;
    }

    private static void promise20Steps() {
        promise = 20;
        SumRewriter x = Make.with(Make.BASE, "un(s(a),s(b),a)", "plus(a,b)", "a", "x", Make.deep(19, "b"), "plus(a,a,a,a,a,a)", "un(a,plus(a,b))");
        ask("without rules", () -> x.steps(0), 0);
        Make.rules(x, "un(s(x),s(y))=s(x)");
        ask("by a part of a sum", () -> x.steps(0), 2);
        x.turn(0, false);
        Make.rules(x, "plus(x,y)=s(plus(x,y))");
        ask("plus(a,b): whole, one part, none; and each part at its own place", () -> x.steps(1), 6);
        x.turn(1, false);
        Make.rules(x, "b=s(b)");
        ask("too great ones are left out", () -> x.steps(4), 0);
        x.turn(2, false);
        Make.rules(x, "a=plus(a,b)");
        ask("with 7 parts it is left out", () -> x.steps(5), 0);
        x.turn(3, false);
        Make.rules(x, "plus(x,y)=plus(y,x)");
        ask("such as change nothing are left out", () -> x.steps(1), 0);
        x.turn(4, false);
        Make.rules(x, "a=b");
        ask("by places", () -> x.steps(6), 2);
        ask("alike behind, at unlike places", () -> x.steps(5), 6);
        Make.rules(x, "a=b");
        ask("alike rules are two", () -> x.steps(2), 2);
        ask("of a variable", () -> x.steps(3), 0);
        ask("no such term", () -> x.steps(7), INDEX);
        ask("term -1", () -> x.steps(-1), INDEX);
        SumRewriter y = manySteps();
        ask("201 steps", () -> y.steps(1), STATE);
        y.turn(7, false);
        ask("198 steps", () -> y.steps(1), 198);
        y.turn(6, false);
        ask("205 steps", () -> y.steps(0), STATE);
        y.turn(5, false);
        ask("200 steps", () -> y.steps(0), 200);
        SumRewriter z = Make.with(Make.BASE, "plus(a,b,s(a),s(b),s(s(a)),s(s(b)))", "plus(a,b,s(a),s(b))");
        Make.rules(z, "plus(x,y,z)=plus(x,y,z)");
        ask("matches that are too much", () -> z.steps(0), STATE);
        ask("matches that are not", () -> z.steps(1), 0);
        SumRewriter v = Make.with("free e 0;free i 0;ac p unit e;ac q unit i;free a 0;free b 0;free d 0;var x;var y;", "p(a,b,d)", "q(a,b)", "a");
        Make.rules(v, "q(x,a)=b");
        ask("a sum that falls together, at a place", () -> v.steps(0), 1);
        ask("some parts of q(a,b)", () -> v.steps(1), 3);
        ask("a itself", () -> v.steps(2), 1);
    }

    private static void promise21Step() {
        promise = 21;
        SumRewriter x = Make.with(Make.BASE, "un(a,s(a),m(a,b))", "plus(a,b,s(x))", "b");
        Make.rules(x, "a=e", "s(x)=x", "un(x,y)=x");
        x.turn(2, false);
        String[] want = {"un(e,s(a),m(a,b))", "un(a,a,m(a,b))", "un(a,s(e),m(a,b))", "un(a,s(a),m(b,e))"};
        for (int k = 0; k < want.length; k++) {
            int i = k;
            askShown(x, "step " + k, () -> x.step(0, i), want[k]);
        }
        ask("step 4", () -> x.step(0, 4), NO_SUCH);
        ask("step -1", () -> x.step(0, -1), NO_SUCH);
        ask("of one that is normal", () -> x.step(2, 0), NO_SUCH);
        ask("no such term", () -> x.step(3, 0), INDEX);
        ask("what was shown stays", () -> Check.shown(x), want[3]);
        x.turn(0, false);
        x.turn(1, false);
        x.turn(2, true);
        String[] parts = {"a", "s(a)", "m(a,b)", "un(a,s(a))", "un(a,m(a,b))", "un(s(a),m(a,b))"};
        for (int k = 0; k < parts.length; k++) {
            int i = k;
            askShown(x, "by ORDER, step " + k, () -> x.step(0, i), parts[k]);
        }
        SumRewriter y = Make.with(Make.BASE, "plus(a,b)");
        Make.rules(y, "plus(x,a)=plus(x,s(e))", "e=a");
        askShown(y, "the others come along", () -> y.step(0, 0), "plus(b,s(e))");
        ask("at place 0 once for all ways, and at place 1", () -> y.steps(0), 2);
        SumRewriter z = manySteps();
        ask("too much", () -> z.step(1, 0), STATE);
        ask("too much ahead of no such step", () -> z.step(1, -1), STATE);
        ask("no such term ahead of it", () -> z.step(3, 0), INDEX);
        SumRewriter none = Make.with(Make.BASE, "plus(a,b)");
        Make.rules(none, "plus(x,x)=s(a)");
        askShown(none, "a match of none", () -> none.step(0, 0), "plus(a,b,s(a))");
    }

    private static void promise22StepAt() {
        promise = 22;
        SumRewriter x = Make.with(Make.BASE, "un(a,s(a),m(a,b))", "b");
        Make.rules(x, "a=e", "s(x)=x", "a=b");
        int[][] want = {{1, 0}, {1, 2}, {2, 1}, {3, 0}, {3, 2}, {5, 0}, {5, 2}};
        ask("how many", () -> x.steps(0), want.length);
        for (int k = 0; k < want.length; k++) {
            int i = k;
            ask("place of step " + k, () -> x.stepAt(0, i, 0), want[i][0]);
            ask("rule of step " + k, () -> x.stepAt(0, i, 1), want[i][1]);
        }
        ask("step 7", () -> x.stepAt(0, 7, 0), NO_SUCH);
        ask("step -1", () -> x.stepAt(0, -1, 0), NO_SUCH);
        ask("what 2", () -> x.stepAt(0, 0, 2), NO_SUCH);
        ask("what -1", () -> x.stepAt(0, 0, -1), NO_SUCH);
        ask("no such term", () -> x.stepAt(2, 0, 2), INDEX);
        ask("nothing is shown by it", () -> x.count(5), 0);
        SumRewriter y = manySteps();
        ask("too much", () -> y.stepAt(1, 0, 0), STATE);
        ask("too much ahead of another what", () -> y.stepAt(1, 0, 7), STATE);
        ask("step 199", () -> {
            y.turn(5, false);
            y.turn(6, false);
            y.turn(7, false);
            return y.stepAt(0, 199, 0) * 10 + y.stepAt(0, 199, 1);
        }, 154);
    }

    private static void promise23AtTop() {
        promise = 23;
        SumRewriter x = Make.with(Make.BASE, "un(s(a),s(b),a)", "s(un(s(a),s(b)))", "un(a,b)");
        Make.rules(x, "un(s(x),s(y))=s(x)", "s(x)=x", "un(x,y)=x");
        ask("rule 0", () -> x.atTop(0, 0), 2);
        ask("rule 0 within", () -> x.atTop(1, 0), 0);
        ask("rule 1", () -> x.atTop(1, 1), 1);
        ask("rule 1 within", () -> x.atTop(0, 1), 0);
        x.turn(0, false);
        ask("a rule that is off", () -> x.atTop(0, 0), 2);
        ask("it stays off", () -> x.count(4), 6);
        ask("rule 2", () -> x.atTop(2, 2), 2);
        ask("no such term", () -> x.atTop(3, 0), INDEX);
        ask("no such rule", () -> x.atTop(0, 3), INDEX);
        ask("rule -1", () -> x.atTop(0, -1), INDEX);
        SumRewriter y = manySteps();
        ask("180 alone", () -> y.atTop(2, 0), 180);
        ask("the others are elsewhere", () -> y.atTop(1, 1), 0);
        SumRewriter z = Make.with("free a 0;free b 0;free d 0;free f 0;free h 0;free t 0;free s 1;ac un;var x;var y;", "un(a,b,d,f,h,t)");
        Make.rules(z, "un(x,y)=s(x)", "a=b");
        ask("602 are too much", () -> z.atTop(0, 0), STATE);
        ask("none of the other rule", () -> z.atTop(0, 1), 0);
    }

    private static void promise24Walk() {
        promise = 24;
        SumRewriter x = Make.with(Make.BASE, "s(s(s(a)))", "a", "plus(a,b)", "b", "plus(s(a),s(b))");
        Make.rules(x, "s(x)=x");
        ask("to the end", () -> x.walk(0), 3);
        ask("what is there", () -> Check.shown(x), "a");
        ask("bytes", () -> x.count(5), 1);
        ask("of a normal one", () -> x.walk(1), 0);
        ask("it is shown", () -> Check.shown(x), "a");
        ask("two ways", () -> x.walk(4), 2);
        ask("what is there then", () -> Check.shown(x), "plus(a,b)");
        Make.rules(x, "a=b", "b=a");
        ask("without end", () -> x.walk(1), 40);
        ask("behind 40", () -> Check.shown(x), "a");
        ask("without end, from b", () -> x.walk(3), 40);
        ask("behind 40, from b", () -> Check.shown(x), "b");
        ask("plus(a,b)", () -> x.walk(2), 40);
        ask("the first step each time", () -> Check.shown(x), "plus(a,b)");
        ask("no such term", () -> x.walk(5), INDEX);
        SumRewriter y = Make.with("free a 0;free b 0;free d 0;free f 0;free h 0;free t 0;free g 1;free s 1;ac un;var x;var y;",
                "g(a)", "un(a,b,d,f,h,t)", "t");
        Make.rules(y, "g(x)=un(a,b,d,f,h,t)", "un(x,y)=s(x)");
        ask("too much on the way", () -> y.walk(0), STATE);
        ask("too much at once", () -> y.walk(1), STATE);
        ask("nothing is shown", () -> y.count(5), 0);
        countdown();
    }

    /** Two digits counted down by forty steps; what is there then has too many, but it is not asked. */
    private static void countdown() {
        SumRewriter x = Make.with("free a 0;free b 0;free d 0;free f 0;free h 0;free t 0;free s 1;free g 2;ac un;var x;var y;",
                "g(" + Make.deep(5, "t") + "," + Make.deep(4, "t") + ")", "g(" + Make.deep(5, "t") + "," + Make.deep(3, "t") + ")",
                "g(" + Make.deep(5, "t") + "," + Make.deep(5, "t") + ")");
        Make.rules(x, "g(x,s(y))=g(x,y)", "g(s(x),t)=g(x,s(s(s(s(s(s(t)))))))", "g(t,t)=un(a,b,d,f,h,t)", "un(x,y)=s(x)");
        ask("forty steps", () -> x.walk(0), 40);
        ask("and stands at the forty-first's begin", () -> Check.shown(x), "un(a,b,d,f,h,t)");
        ask("thirty-nine, then too much", () -> x.walk(1), STATE);
        ask("what was shown stays", () -> Check.shown(x), "un(a,b,d,f,h,t)");
        ask("one more is not done", () -> x.walk(2), 40);
        ask("it stands ahead of the last", () -> Check.shown(x), "g(t,t)");
        x.turn(3, false);
        ask("thirty-nine to a normal one", () -> x.walk(1), 39);
    }

    /** Seven times a, which may become one of seven others. */
    private static SumRewriter manyReached() {
        SumRewriter x = Make.with("free a 0;free b 0;free d 0;free f 0;free h 0;free i 0;free j 0;free k 0;free g 2;",
                "g(a,g(a,g(a,g(a,g(a,g(a,a))))))", "g(a,g(a,g(a,g(a,g(a,g(a,g(a,g(a,g(a,a)))))))))", "a", "b", "g(a,a)", "g(b,d)");
        Make.rules(x, "a=b", "a=d", "a=f", "a=h", "a=i", "a=j", "a=k");
        return x;
    }

    private static void promise25Reach() {
        promise = 25;
        SumRewriter x = manyReached();
        ask("50 reached", () -> x.reach(0, 1, false), 50);
        ask("none of them is normal", () -> x.reach(0, 1, true), 0);
        ask("by 0", () -> x.reach(0, 0, false), 1);
        ask("by 2", () -> x.reach(0, 2, false), STATE);
        ask("71", () -> x.reach(1, 1, false), STATE);
        x.turn(5, false);
        x.turn(6, false);
        ask("51", () -> x.reach(1, 1, false), STATE);
        x.turn(4, false);
        ask("41", () -> x.reach(1, 1, false), 41);
        ask("a by 1", () -> x.reach(2, 1, false), 5);
        ask("a by 4, normal", () -> x.reach(2, 4, true), 4);
        ask("a by 0, normal", () -> x.reach(2, 0, true), 0);
        ask("b by 0, normal", () -> x.reach(3, 0, true), 1);
        ask("g(a,a) by 1", () -> x.reach(4, 1, false), 9);
        ask("g(a,a) by 2", () -> x.reach(4, 2, false), 25);
        ask("g(a,a) by 3", () -> x.reach(4, 3, false), 25);
        ask("g(a,a) by 2, normal", () -> x.reach(4, 2, true), 16);
        ask("g(a,a) by 1, normal", () -> x.reach(4, 1, true), 0);
        ask("n 5", () -> x.reach(2, 5, false), ARGUMENT);
        ask("n -1", () -> x.reach(2, -1, false), ARGUMENT);
        ask("no such term", () -> x.reach(6, 5, false), INDEX);
        ask("n ahead of too much", () -> x.reach(1, 5, false), ARGUMENT);
        SumRewriter y = Make.with("free a 0;free b 0;free d 0;free f 0;free h 0;free t 0;free g 1;free s 1;ac un;var x;var y;",
                "g(a)", "un(a,b,d,f,h,t)");
        Make.rules(y, "g(x)=un(a,b,d,f,h,t)", "un(x,y)=s(x)");
        ask("the last ones are not asked", () -> y.reach(0, 1, false), 2);
        ask("but where normal ones are told", () -> y.reach(0, 1, true), STATE);
        ask("or with more steps", () -> y.reach(0, 2, false), STATE);
        ask("by 0 nothing is asked", () -> y.reach(1, 0, false), 1);
        ask("by 0 normal ones are", () -> y.reach(1, 0, true), STATE);
    }

    private static void promise26Reached() {
        promise = 26;
        SumRewriter x = Make.with(Make.BASE, "m(a,b)", "b");
        Make.rules(x, "a=s(e)", "b=e", "s(x)=x");
        String[] want = {"m(a,b)", "m(a,e)", "m(b,s(e))"};
        for (int k = 0; k < 3; k++) {
            int i = k;
            askShown(x, "by 1, " + k, () -> x.reached(0, 1, false, i), want[k]);
        }
        ask("by 1, 3", () -> x.reached(0, 1, false, 3), NO_SUCH);
        ask("by 1, -1", () -> x.reached(0, 1, false, -1), NO_SUCH);
        askShown(x, "by 3, normal", () -> x.reached(0, 3, true, 0), "m(e,e)");
        ask("by 3, normal, 1", () -> x.reached(0, 3, true, 1), NO_SUCH);
        ask("by 2, normal", () -> x.reached(0, 2, true, 0), NO_SUCH);
        askShown(x, "by 0", () -> x.reached(0, 0, false, 0), "m(a,b)");
        String[] all = {"m(a,b)", "m(a,e)", "m(b,e)", "m(b,s(e))", "m(e,e)", "m(e,s(e))"};
        for (int k = 0; k < all.length; k++) {
            int i = k;
            askShown(x, "by 4, " + k, () -> x.reached(0, 4, false, i), all[k]);
        }
        ask("n 5", () -> x.reached(0, 5, false, 0), ARGUMENT);
        ask("n -1", () -> x.reached(0, -1, false, 0), ARGUMENT);
        ask("no such term", () -> x.reached(2, 5, false, 0), INDEX);
        SumRewriter y = manyReached();
        ask("too much", () -> y.reached(0, 2, false, 0), STATE);
        ask("too much ahead of no such", () -> y.reached(0, 2, false, -1), STATE);
        ask("n ahead of too much", () -> y.reached(0, 9, false, -1), ARGUMENT);
        askShown(y, "the last of 50", () -> y.reached(0, 1, false, 49), "g(k,g(a,g(a,g(a,g(a,g(a,a))))))");
    }

    private static void promise27Meet() {
        promise = 27;
        SumRewriter x = Make.with(Make.BASE, "s(s(a))", "s(b)", "a", "b", "plus(a,b)", "m(a,s(b))", "z", Make.deep(5, "a"));
        Make.rules(x, "s(x)=x", "a=e", "b=e");
        ask("itself", () -> x.meet(0, 0, 0), 0);
        ask("itself by 4", () -> x.meet(0, 0, 4), 0);
        ask("a and b by 0", () -> x.meet(2, 3, 0), -1);
        ask("a and b by 1", () -> x.meet(2, 3, 1), 1);
        ask("s(s(a)) and a by 1", () -> x.meet(0, 2, 1), -1);
        ask("s(s(a)) and a by 2", () -> x.meet(0, 2, 2), 2);
        ask("s(s(a)) and s(b) by 4", () -> x.meet(0, 1, 4), 2);
        ask("s(s(a)) and s(b), the other way", () -> x.meet(1, 0, 4), 2);
        ask("plus(a,b) and a", () -> x.meet(4, 2, 3), 1);
        ask("none", () -> x.meet(6, 2, 4), -1);
        ask("too far", () -> x.meet(7, 6, 4), -1);
        ask("not far enough", () -> x.meet(7, 3, 4), -1);
        ask("far enough", () -> x.meet(7, 0, 4), 3);
        ask("one less", () -> x.meet(7, 0, 2), -1);
        ask("n 5", () -> x.meet(0, 0, 5), ARGUMENT);
        ask("n -1", () -> x.meet(0, 0, -1), ARGUMENT);
        ask("no such term", () -> x.meet(8, 0, 5), INDEX);
        ask("no such other", () -> x.meet(0, 8, 5), INDEX);
        SumRewriter y = manyReached();
        ask("too much ahead of meeting", () -> y.meet(1, 3, 1), STATE);
        ask("too much of the other", () -> y.meet(3, 1, 1), STATE);
        ask("by 0 it is not", () -> y.meet(1, 3, 0), -1);
        ask("met ahead of it", () -> y.meet(1, 1, 4), 0);
        ask("not met ahead of it", () -> y.meet(4, 5, 2), STATE);
        ask("50 are not too much", () -> y.meet(0, 3, 1), -1);
        ask("but by 2", () -> y.meet(0, 3, 2), STATE);
        for (int r = 2; r < 7; r++) {
            y.turn(r, false);
        }
        ask("with two rules", () -> y.meet(4, 5, 4), 2);
        ask("the other way", () -> y.meet(5, 4, 2), 2);
    }

    private static void promise28Keep() {
        promise = 28;
        SumRewriter x = Make.with(Make.BASE, "plus(a,b)", "s(x)");
        ask("nothing is shown", () -> x.keep(), STATE);
        x.join(6, 0, 1);
        ask("kept", () -> x.keep(), 2);
        ask("kept again", () -> x.keep(), 2);
        askShown(x, "it is told", () -> x.show(2), "un(s(x),plus(a,b))");
        x.place(2, 1);
        ask("told already", () -> x.keep(), 1);
        x.place(2, 2);
        ask("a variable", () -> x.keep(), 3);
        Make.rules(x, "s(x)=m(x,x)");
        x.side(0, true);
        ask("a side", () -> x.keep(), 4);
        Check.signature(x, Make.BASE);
        ask("a new signature", () -> x.keep(), STATE);
        for (int i = 0; i < 30; i++) {
            Check.term(x, i < 20 ? Make.deep(i, "a") : Make.deep(i - 20, "b"));
        }
        x.fill(0, 0, 0);
        ask("alike with 30", () -> x.keep(), 0);
        x.join(5, 0, 20);
        ask("another with 30", () -> x.keep(), STATE);
        ask("it is shown still", () -> Check.shown(x), "plus(a,b)");
        ask("30 terms", () -> x.count(2), 30);
    }

    private static void promise29Octet() {
        promise = 29;
        SumRewriter x = Make.with(Make.BASE, "m(x,a)");
        ask("nothing is shown", () -> x.octet(0), -1);
        x.show(0);
        String text = "m(x,a)";
        for (int k = 0; k < text.length(); k++) {
            int i = k;
            ask("octet(" + k + ")", () -> x.octet(i), (int) text.charAt(k));
        }
        ask("octet(6)", () -> x.octet(6), -1);
        ask("octet(-1)", () -> x.octet(-1), -1);
        ask("octet(MAX)", () -> x.octet(Integer.MAX_VALUE), -1);
        ask("octet(MIN)", () -> x.octet(Integer.MIN_VALUE), -1);
        x.place(0, 1);
        ask("a shorter one", () -> x.octet(1), -1);
    }

    private static void promise30Count() {
        promise = 30;
        SumRewriter x = Make.with(Make.BASE, "plus(a,b)", "s(s(a))", "b", "plus(x,y)");
        Make.rules(x, "plus(x,y)=x", "a=b", "s(x)=a");
        x.turn(1, false);
        x.show(1);
        int[] want = {7, 3, 4, 3, 5, 7, 0, 3, 4 + 2 + 2 + 4 + 1};
        for (int what = 0; what <= 8; what++) {
            int w = what;
            ask("count(" + what + ")", () -> x.count(w), want[w]);
        }
        ask("count(9)", () -> x.count(9), -1);
        ask("count(-1)", () -> x.count(-1), -1);
        x.turn(0, false);
        ask("normal ones", () -> x.count(6), 13);
        ask("matches of one rule", () -> x.count(8), 1);
        x.turn(2, false);
        ask("all are normal", () -> x.count(6), 15);
        ask("no matches", () -> x.count(8), 0);
        SumRewriter y = Make.with(Make.BASE, "a", "plus(a,b,s(a),s(b),s(s(a)),s(s(b)))");
        Make.rules(y, "plus(x,y,z)=plus(x,y,z)");
        ask("too much for normal ones", () -> y.count(6), -1);
        ask("too much for matches", () -> y.count(8), -1);
        y.turn(0, false);
        ask("not without the rule", () -> y.count(6), 3);
        ask("nor its matches", () -> y.count(8), 0);
        ask("the greatest size", () -> y.count(7), 13);
    }
}
