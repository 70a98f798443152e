/** The document's "Terms", up to ORDER and RULES: a test for each sentence that names an edge of what a text may be. */
public final class EdgesOfTexts {
    /** Operators of each sort: a, f, g, h free with 0 to 3 parts, k c, p ac with the unit a, q ac. */
    private static final String PARTS = "free a 0;free f 1;free g 2;free h 3;c k;ac p unit a;ac q;var x;";
    private static final String NINE = "free a 0;free b 1;free d 2;free f 3;c g;c h;ac i;ac j unit a;ac k;";
    private static final String TEN = NINE + "free l 0;";
    private static final String FIVE = "var m;var n;var o;var p;var q;";

    private EdgesOfTexts() {
    }

    public static void main(String[] args) {
        emptySignature();
        freeParts();
        pairParts();
        units();
        tenOperators();
        fiveVariables();
        numberedAsTold();
        lettersOfNames();
        namesToldTwice();
        wordsThatAreNoNames();
        blanks();
        partsWritten();
        faultyWords();
        faultySignsAndNumbers();
        faultyClauses();
        textsThatEnd();
        firstOfSeveralFaults();
        flattened();
        withoutUnits();
        partsInOrder();
        onePartLeft();
        greatSizes();
        manyParts();
        orderOfTerms();
        thirtyTerms();
        eightRules();
        leftIsNoVariable();
        variablesOfRight();
        onAtFirst();
        Check.finish("EdgesOfTexts");
    }

    private static SumRewriter furnished() {
        SumRewriter x = Make.with(Make.BASE, "plus(b,a)", "x", "un(s(a),m(a,b))");
        Make.rules(x, "s(x)=x", "a=b");
        x.turn(1, false);
        return x;
    }

    private static SumRewriter withParts() {
        return Make.with(PARTS, "a", "p(x,x)");
    }

    private static void wrongSignature(String text, int fault) {
        Edge.wrongText(EdgesOfTexts::furnished, "signature", text, fault);
    }

    private static void wrongTerm(String text, int fault) {
        Edge.wrongText(EdgesOfTexts::furnished, "term", text, fault);
    }

    private static void wrongRule(String text, int fault) {
        Edge.wrongText(EdgesOfTexts::furnished, "rule", text, fault);
    }

    private static void greatTerm(String text) {
        Edge.refusedText(EdgesOfTexts::furnished, "term", text, Edge.STATE, -1);
    }

    private static void refusedRule(String text) {
        Edge.refusedText(EdgesOfTexts::furnished, "rule", text, Edge.STATE, -1);
    }

    private static void signature(String text, int operators, int variables) {
        SumRewriter x = new SumRewriter();
        Edge.taken(x, "signature", text, operators);
        Check.ask("operators of " + text, () -> x.count(0), operators);
        Check.ask("variables of " + text, () -> x.count(1), variables);
    }

    /** How a term of BASE stands. */
    private static void stands(String text, String want) {
        stands(Make.BASE, text, want);
    }

    private static void stands(String signature, String text, String want) {
        SumRewriter x = Make.with(signature);
        Edge.taken(x, "term", text, 0);
        Edge.shows(text, x, y -> y.show(0), want);
    }

    // ---- the signature ----

    private static void emptySignature() {
        Check.sentence("THE SIGNATURE is a text: { CLAUSE ; }");
        signature("", 0, 0);
        signature(" \t\n", 0, 0);
        signature("var x;", 0, 1);
        signature("c k;", 1, 0);
        wrongSignature(";", 0);
        wrongSignature("var x;;", 6);
        wrongSignature("var x var y;", 6);
    }

    private static void freeParts() {
        Check.sentence("free NAME n (an OPERATOR of n PARTS, 0 to 3)");
        for (int n = 0; n <= 3; n++) {
            SumRewriter x = new SumRewriter();
            Edge.taken(x, "signature", "free a " + n + ";", 1);
            Check.due("sort", x.operator(0, 0), 0);
            Check.due("parts", x.operator(0, 1), n);
        }
        wrongSignature("free a 4;", 7);
        wrongSignature("free a 9;", 7);
        wrongSignature("free a -1;", 7);
        wrongSignature("free a;", 6);
        wrongSignature("free a 3 0;", 9);
    }

    private static void pairParts() {
        Check.sentence("c NAME (of two PARTS, in any order)");
        SumRewriter x = Make.with("c k;free b 0;free a 0;", "k(a,b)");
        Check.due("sort", x.operator(0, 0), 1);
        Check.due("parts", x.operator(0, 1), 2);
        Edge.taken(x, "term", "k(b,a)", 0);
        wrongSignature("c k 2;", 4);
        wrongSignature("c k unit a;", 4);
    }

    private static void units() {
        Check.sentence("the unit a free OPERATOR of no PARTS that is told already");
        SumRewriter x = Make.with("free d 0;free e 0;ac p unit e;ac q unit e;ac r;");
        int[] units = {-1, -1, 1, 1, -1};
        for (int o = 0; o < units.length; o++) {
            Check.due("unit of " + o, x.operator(o, 2), units[o]);
        }
        wrongSignature("ac p unit e;free e 0;", 10);
        wrongSignature("ac p unit p;", 10);
        wrongSignature("free e 1;ac p unit e;", 19);
        wrongSignature("free e 2;ac p unit e;", 19);
        wrongSignature("free e 3;ac p unit e;", 19);
        wrongSignature("c e;ac p unit e;", 14);
        wrongSignature("ac e;ac p unit e;", 15);
        wrongSignature("var e;ac p unit e;", 16);
        wrongSignature("free e 0;ac p unit ;", 19);
        wrongSignature("free e 0;ac p unit e e;", 21);
        wrongSignature("free e 0;ac p e;", 14);
        wrongSignature("free e 0;ac p unit unit;", 19);
    }

    private static void tenOperators() {
        Check.sentence("OPERATORS, 10 at most");
        signature(NINE, 9, 0);
        signature(TEN, 10, 0);
        signature(NINE + "c l;", 10, 0);
        signature(NINE + "ac l;", 10, 0);
        signature(NINE + "ac l unit a;", 10, 0);
        signature(TEN + "var m;", 10, 1);
        wrongSignature(TEN + "free m 0;", TEN.length());
        wrongSignature(TEN + "c m;", TEN.length());
        wrongSignature(TEN + "ac m;", TEN.length());
        wrongSignature(TEN + "ac m unit a;", TEN.length());
        wrongSignature(TEN + FIVE + "c r;", TEN.length() + FIVE.length());
        SumRewriter x = Make.with(TEN);
        Check.due("the tenth", x.operator(9, 1), 0);
    }

    private static void fiveVariables() {
        Check.sentence("VARIABLES, 5 at most");
        signature("var m;var n;var o;var p;", 0, 4);
        signature(FIVE, 0, 5);
        signature(TEN + FIVE, 10, 5);
        signature(FIVE + TEN, 10, 5);
        wrongSignature(FIVE + "var r;", FIVE.length());
        wrongSignature(FIVE + TEN + "\nvar r;", FIVE.length() + TEN.length() + 1);
    }

    private static void numberedAsTold() {
        Check.sentence("OPERATORS and VARIABLES are numbered from 0 on as they are told");
        SumRewriter x = Make.with("var y;free b 0;var x;c k;free a 0;", "y", "x", "b", "k(a,b)", "a");
        int[] operators = {-1, -1, 0, 1, 2};
        int[] variables = {0, 1, -1, -1, -1};
        for (int t = 0; t < 5; t++) {
            Check.due("operator of term " + t, x.about(t, 0), operators[t]);
            Check.due("variable of term " + t, x.about(t, 1), variables[t]);
        }
    }

    private static void lettersOfNames() {
        Check.sentence("NAMES: 1 to 6 letters a to z");
        signature("free a 0;free z 0;", 2, 0);
        signature("free azazaz 0;c zzzzzz;ac aaaaaa unit azazaz;var mnopqr;", 3, 1);
        wrongSignature("free azazaza 0;", 5);
        wrongSignature("c azazaza;", 2);
        wrongSignature("ac azazaza;", 3);
        wrongSignature("var azazaza;", 4);
        wrongSignature("var " + "a".repeat(396), 4);
        wrongSignature("free 0;", 5);
        for (String no : new String[] {"`", "{", "A", "Z", "@", "_", "\u00e1", "\u00ff", "\u0000"}) {
            wrongSignature("free " + no + " 0;", 5);
            wrongSignature("free a" + no + " 0;", 6);
        }
        wrongSignature("free a1 0;", 8);
        Edge.Setup six = () -> Make.with("free abcdef 0;var bcdefg;", "abcdef", "bcdefg");
        Edge.wrongText(six, "term", "abcdefg", 0);
        Edge.wrongText(six, "term", "abcde", 0);
        Edge.wrongText(six, "term", "bcdefgh", 0);
    }

    private static void namesToldTwice() {
        Check.sentence("NAMES: none told twice (by both)");
        wrongSignature("free a 0;free a 0;", 14);
        wrongSignature("free a 0;free a 1;", 14);
        wrongSignature("free a 0;c a;", 11);
        wrongSignature("free a 0;ac a;", 12);
        wrongSignature("free a 0;var a;", 13);
        wrongSignature("var a;free a 0;", 11);
        wrongSignature("var a;c a;", 8);
        wrongSignature("var a;ac a;", 9);
        wrongSignature("var a;var a;", 10);
        wrongSignature("c a;c a;", 6);
        wrongSignature(NINE + "c k;", NINE.length() + 2);
        signature("free a 0;free aa 0;var aaa;c ab;ac ba;", 4, 1);
    }

    private static void wordsThatAreNoNames() {
        Check.sentence("NAMES: none of the words free, c, ac, unit, var");
        for (String word : new String[] {"free", "c", "ac", "unit", "var"}) {
            wrongSignature("free " + word + " 0;", 5);
            wrongSignature("c " + word + ";", 2);
            wrongSignature("ac " + word + ";", 3);
            wrongSignature("var " + word + ";", 4);
            wrongTerm(word, 0);
            wrongTerm("s(" + word + ")", 2);
        }
        signature("free fre 0;free frees 0;c d;c cc;ac a;ac aca;var uni;var units;var va;var vars;", 6, 4);
    }

    private static void blanks() {
        Check.sentence("BLANKS (9, 10, 32) may stand between all, and must between letters");
        signature("\t\n free\ta\n0 ; c\nk;\tac p\n\tunit  a ; var \t x\n;\n ", 3, 1);
        signature("free a0;c k;ac p unit a;var x;", 3, 1);
        SumRewriter x = Make.with("free a 0;c k;ac p unit a;var x;");
        Edge.taken(x, "term", "\n k ( x\t,\tp\n( x , x ) ) \n", 0);
        Edge.taken(x, "term", "k(x,p(x,x))", 0);
        Edge.taken(x, "rule", "\tk ( x , a ) = x ", 0);
        Edge.taken(x, "rule", "k(x,a)=x", 1);
        for (int b : new int[] {0, 8, 11, 12, 13, 31, 33, 127, 128, 160, 255}) {
            wrongSignature("free a" + (char) b + "0;", 6);
            wrongTerm("m(a," + (char) b + "a)", 4);
            wrongRule("s(x)" + (char) b + "=x", 4);
        }
        wrongSignature("freea 0;", 0);
        wrongSignature("free a 0;ck;", 9);
        wrongSignature("free a 0;acp;", 9);
        wrongSignature("free a 0;ac p unita;", 14);
        wrongSignature("free a 0;ac punit a;", 18);
        wrongSignature("varx;", 0);
        wrongSignature("fr ee a 0;", 0);
        wrongSignature("free b d 0;", 7);
        wrongTerm("pl us(a,b)", 0);
    }

    private static void partsWritten() {
        Check.sentence("as many as it has PARTS; of an ac OPERATOR 2 to 9");
        String[] right = {"a", "x", "f(x)", "g(x,x)", "h(x,x,x)", "k(x,x)", "p(x,x)", "q(x,x)", "p(x,x,x)",
            "p(x,a,a,a,a,a,a,x)", "p(a,x,a,a,a,a,a,a,x)"};
        int[] number = {0, 1, 2, 3, 4, 5, 6, 7, 8, 6, 6};
        SumRewriter x = Make.with(PARTS);
        for (int i = 0; i < right.length; i++) {
            Edge.taken(x, "term", right[i], number[i]);
        }
        String[] wrong = {"a(a)", "a()", "x(a)", "f", "f()", "f(a,a)", "g(a)", "g(a,a,a)", "h(a,a)", "h(a,a,a,a)", "k(a)",
            "k(a,a,a)", "p(a)", "p()", "p", "q(x)", "p(a,a,a,a,a,a,a,a,a,a)", "q(a,a,a,a,a,a,a,a,a,a)"};
        int[] fault = {1, 1, 1, 1, 2, 3, 3, 5, 5, 7, 3, 5, 3, 2, 1, 3, 19, 19};
        for (int i = 0; i < wrong.length; i++) {
            Edge.wrongText(EdgesOfTexts::withParts, "term", wrong[i], fault[i]);
        }
        Edge.refusedText(EdgesOfTexts::withParts, "term", "q(a,a,a,a,a,a,a,a,a)", Edge.STATE, -1);
    }

    // ---- faults ----

    private static void faultyWords() {
        Check.sentence("FAULT: where a word begins that cannot stand there (of 7 letters and more, a NAME that is told, or is not)");
        wrongSignature("foo a;", 0);
        wrongSignature("unit a;", 0);
        wrongSignature("free a 0; aa b;", 10);
        wrongSignature("ac p uni q;", 5);
        wrongSignature("c k c;", 4);
        wrongSignature("var x y;", 6);
        wrongSignature("fre", 0);
        wrongSignature("free a b;", 7);
        wrongSignature("free abcdefg 0;", 5);
        wrongSignature("free abcdef 0;c abcdef;", 16);
        wrongSignature("ac p unit q;", 10);
        wrongTerm("q", 0);
        wrongTerm("plus(a,q)", 7);
        wrongTerm("plus(a,abcdefg)", 7);
        wrongTerm("plus(a b)", 7);
        wrongTerm("a b", 2);
        wrongTerm("plus a", 5);
        wrongTerm("m(x y,a)", 4);
        wrongTerm("plu", 0);
        wrongRule("s(x)=s(q)", 7);
        wrongRule("s(x) x=x", 5);
        wrongRule("s(x)=x x", 7);
    }

    private static void faultySignsAndNumbers() {
        Check.sentence("FAULT: a sign, a number that cannot (0 to 3, one digit)");
        wrongSignature("free a (0);", 7);
        wrongSignature("free, a 0;", 4);
        wrongSignature("free a 0,", 8);
        wrongSignature("=", 0);
        wrongSignature("free a 4;", 7);
        wrongSignature("free a 10;", 7);
        wrongSignature("free a 00;", 7);
        wrongSignature("free a 03;", 7);
        wrongSignature("free a 09;", 7);
        wrongSignature("free a 39;", 7);
        wrongSignature("free a 30;", 7);
        wrongSignature("free a " + "1".repeat(393), 7);
        wrongSignature("free a 1 1;", 9);
        wrongSignature("0", 0);
        wrongSignature("var 0;", 4);
        wrongTerm("(", 0);
        wrongTerm("a(", 1);
        wrongTerm("s((a))", 2);
        wrongTerm("plus(a,,b)", 7);
        wrongTerm("plus(a;b)", 6);
        wrongTerm("s(a))", 4);
        wrongTerm("plus[a,b]", 4);
        wrongTerm("s(0)", 2);
        wrongTerm("a0", 1);
        for (String sign : new String[] {"\u0000", "\u0001", "\u0080", "\u00ff"}) {
            wrongSignature("var x;" + sign, 6);
            wrongSignature(sign, 0);
            wrongTerm("s(a)" + sign, 4);
            wrongTerm("s(" + sign, 2);
            wrongRule("s(x)=x" + sign, 6);
        }
        wrongTerm("plus(a,b)=a", 9);
        wrongRule("=a", 0);
        wrongRule("s(x)==x", 5);
        wrongRule("s(x)=x=x", 6);
        wrongRule("s(x)=a;", 6);
        wrongRule("s(x),x", 4);
        wrongRule("s(x=x)", 3);
    }

    private static void faultyClauses() {
        Check.sentence("FAULT: a CLAUSE too many (its first word)");
        wrongSignature(TEN + " \n c free", TEN.length() + 3);
        wrongSignature(TEN + "free", TEN.length());
        wrongSignature(FIVE + "var", FIVE.length());
        wrongSignature(FIVE + "var m;", FIVE.length());
        wrongSignature(FIVE + " var free;", FIVE.length() + 1);
    }

    private static void textsThatEnd() {
        Check.sentence("FAULT: the text's length, if more must come");
        for (String text : new String[] {"free", "free a", "free a 0", "c", "c k", "ac", "ac p", "free e 0;ac p unit",
            "free e 0;ac p unit e", "var", "var x", "var x\n ", "free a 0;free", "ac "}) {
            wrongSignature(text, text.length());
        }
        for (String text : new String[] {"", " ", "plus", "plus(", "plus(a", "plus(a,", "plus(a,b", "plus(a,b \t", "s(s(a)"}) {
            wrongTerm(text, text.length());
        }
        for (String text : new String[] {"", "s(", "s(x)", "s(x) ", "s(x)=", "s(x)= ", "s(x)=s(x"}) {
            wrongRule(text, text.length());
        }
        wrongTerm("s(".repeat(199) + "a", 399);
        wrongTerm("s(".repeat(200), 400);
        wrongTerm(" ".repeat(400), 400);
    }

    private static void firstOfSeveralFaults() {
        Check.sentence("FAULT: the first byte with which no such text goes on");
        wrongSignature("free a 4;;;", 7);
        wrongSignature("free free free", 5);
        wrongTerm("plus(q,,", 5);
        wrongTerm("plus(a,a,a,a,a,a,a),", 19);
        wrongTerm(Make.deep(20, "a") + " q", 62);
        wrongRule("x=q", 2);
        wrongRule("x=y=", 3);
        wrongRule("q=q", 0);
    }

    // ---- as a term stands ----

    private static void flattened() {
        Check.sentence("of an ac OPERATOR PARTS that have that OPERATOR, too, are put in by their own PARTS");
        stands("plus(a,plus(b,x))", "plus(x,a,b)");
        stands("plus(plus(plus(plus(x,y),z),a),b)", "plus(x,y,z,a,b)");
        stands("plus(plus(a,b),plus(plus(x,s(a)),b))", "plus(x,a,b,b,s(a))");
        stands("plus(a,un(a,b))", "plus(a,un(a,b))");
        stands("un(a,plus(a,un(a,b)))", "un(a,plus(a,un(a,b)))");
        stands("m(a,m(a,b))", "m(a,m(a,b))");
        stands("un(plus(e,un(a,b)),a)", "un(a,a,b)");
    }

    private static void withoutUnits() {
        Check.sentence("units are left out");
        stands("plus(e,a,e,b)", "plus(a,b)");
        stands("plus(plus(e,e),a,plus(e,b))", "plus(a,b)");
        stands("un(e,a)", "un(a,e)");
        stands("m(e,a)", "m(a,e)");
        stands("s(e)", "s(e)");
        String two = "free i 0;free o 0;ac p unit o;ac t unit i;free a 0;";
        stands(two, "p(i,a,o)", "p(i,a)");
        stands(two, "t(i,a,o)", "t(o,a)");
        stands(two, "p(t(i,o),a,t(i,i),t(a,i))", "p(i,a,a)");
    }

    private static void partsInOrder() {
        Check.sentence("PARTS of a c or ac OPERATOR are in ORDER");
        stands("m(s(a),b)", "m(b,s(a))");
        stands("m(y,x)", "m(x,y)");
        stands("un(plus(a,b),m(a,a),s(x),e,y,x)", "un(x,y,e,s(x),m(a,a),plus(a,b))");
        stands("free a 0;free b 0;free g 2;free h 3;", "g(b,a)", "g(b,a)");
        stands("free a 0;free b 0;free g 2;free h 3;", "h(b,g(b,a),a)", "h(b,g(b,a),a)");
    }

    private static void onePartLeft() {
        Check.sentence("with one PART left (of ac) it is that PART, with none the unit");
        stands("plus(e,a)", "a");
        stands("plus(e,x)", "x");
        stands("plus(e,e,un(a,b))", "un(a,b)");
        stands("plus(e,e)", "e");
        stands("plus(e,e,e,e,e,e,e,e,e)", "e");
        stands("s(plus(e,plus(e,e)))", "s(e)");
        stands("un(plus(e,e),plus(a,e))", "un(a,e)");
        SumRewriter x = Make.with(Make.BASE, "a", "e");
        Edge.taken(x, "term", "plus(e,a)", 0);
        Edge.taken(x, "term", "plus(e,e)", 1);
    }

    private static void greatSizes() {
        Check.sentence("TOO GREAT: SIZE above 20");
        SumRewriter x = Make.with(Make.BASE);
        Edge.taken(x, "term", Make.deep(18, "a"), 0);
        Edge.taken(x, "term", Make.deep(19, "a"), 1);
        Check.due("sizes", x.about(0, 3) + " " + x.about(1, 3), "19 20");
        greatTerm(Make.deep(20, "a"));
        greatTerm(Make.deep(21, "a"));
        greatTerm(Make.deep(132, "a"));
        Edge.taken(x, "term", "plus(" + Make.deep(17, "a") + ",a)", 2);
        greatTerm("plus(" + Make.deep(18, "a") + ",a)");
        Edge.taken(x, "term", "m(" + Make.deep(8, "a") + "," + Make.deep(9, "x") + ")", 3);
        greatTerm("m(" + Make.deep(9, "a") + "," + Make.deep(9, "x") + ")");
        Edge.taken(x, "term", "plus(e," + Make.deep(19, "a") + ",e)", 1);
        Edge.taken(x, "term", Make.deep(19, "plus(e,e,a)"), 1);
        greatTerm("plus(" + Make.deep(20, "a") + ",e)");
        greatTerm("s(plus(" + Make.deep(19, "a") + ",e))");
    }

    private static void manyParts() {
        Check.sentence("TOO GREAT: more than 6 PARTS of an ac OPERATOR, anywhere in it");
        SumRewriter x = Make.with(Make.BASE);
        Edge.taken(x, "term", "plus(a,a,a,a,a)", 0);
        Edge.taken(x, "term", "plus(a,a,a,a,a,a)", 1);
        greatTerm("plus(a,a,a,a,a,a,a)");
        greatTerm("plus(a,a,a,a,a,a,a,a,a)");
        Edge.taken(x, "term", "plus(a,a,a,e,a,a,a,e)", 1);
        Edge.taken(x, "term", "plus(plus(a,a,a),plus(a,a,a))", 1);
        greatTerm("plus(plus(a,a,a,a),plus(a,a,a))");
        greatTerm("un(a,a,a,a,a,a,e)");
        greatTerm("s(plus(a,a,a,a,a,a,x))");
        greatTerm("m(a,s(s(un(x,x,x,x,x,x,x))))");
        greatTerm("un(a,plus(a,a,a,a,a,a,a))");
        Edge.taken(x, "term", "un(plus(a,a,a,a,a,a),plus(b,b,b,b,b,b),a,a,a,a)", 2);
        Check.due("size", x.about(2, 3), 19);
        Edge.taken(x, "term", "m(m(m(a,a),m(a,a)),m(m(a,a),a))", 3);
    }

    private static void orderOfTerms() {
        Check.sentence("ORDER: VARIABLES ahead of others, by numbers; then by the OPERATOR (lesser number first), then by how many"
                + " PARTS, then by the first unlike PARTS");
        String[] sorted = {"x", "y", "z", "a", "b", "e", "s(x)", "s(z)", "s(a)", "s(s(x))", "s(un(x,x))", "m(x,x)", "m(z,z)",
            "plus(s(s(a)),un(a,a))", "plus(un(a,a),un(a,a))", "plus(x,x,x)", "plus(x,x,a)", "plus(x,x,x,x,x,x)",
            "un(a,a)", "un(a,m(a,b))", "un(a,m(a,e))", "un(b,b)"};
        SumRewriter x = Make.with(Make.BASE, sorted);
        for (int i = 0; i + 1 < sorted.length; i++) {
            Check.due(sorted[i] + " and " + sorted[i + 1], x.order(i, i + 1), -1);
            Check.due(sorted[i + 1] + " and " + sorted[i], x.order(i + 1, i), 1);
            Check.due(sorted[i] + " and itself", x.order(i, i), 0);
            Check.due("rank " + i, x.rank(i), i);
        }
        Check.due("the first and the last", x.order(0, sorted.length - 1), -1);
        SumRewriter y = Make.with("free h 3;free b 0;var z;var w;free a 0;", "w", "h(b,b,a)", "z", "h(b,b,w)", "h(b,a,z)", "a", "b");
        int[] ranks = {2, 0, 3, 1, 4, 6, 5};
        for (int k = 0; k < ranks.length; k++) {
            Check.due("numbers, not names: rank " + k, y.rank(k), ranks[k]);
        }
    }

    // ---- terms and rules told ----

    private static void thirtyTerms() {
        Check.sentence("TERMS told are numbered from 0 on, 30 at most; one that stands like an earlier one has that one's number");
        SumRewriter x = Make.thirty();
        Check.due("how many", x.count(2), 30);
        Edge.taken(x, "term", "a", 0);
        Edge.taken(x, "term", "plus(e," + Make.deep(9, "b") + ")", 29);
        Check.due("how many then", x.count(2), 30);
        Edge.refusedText(Make::thirty, "term", "x", Edge.STATE, -1);
        Edge.refusedText(Make::thirty, "term", Make.deep(10, "b"), Edge.STATE, -1);
        Edge.refusedText(Make::thirty, "term", "q", Edge.ARGUMENT, 0);
        SumRewriter y = Make.with(Make.BASE);
        for (int i = 0; i < 29; i++) {
            Check.term(y, i < 20 ? Make.deep(i, "a") : Make.deep(i - 20, "b"));
        }
        Edge.taken(y, "term", "x", 29);
    }

    private static SumRewriter eight(int n) {
        SumRewriter x = Make.with(Make.BASE, "a", "s(a)");
        for (int i = 0; i < n; i++) {
            Make.rules(x, "s(x)=x");
        }
        return x;
    }

    private static void eightRules() {
        Check.sentence("RULES, 8 at most, numbered from 0 on");
        SumRewriter x = eight(0);
        for (int i = 0; i < 8; i++) {
            Check.due("rules", x.count(3), i);
            Edge.taken(x, "rule", i % 2 == 0 ? "s(x)=x" : "a=b", i);
        }
        Check.due("rules", x.count(3), 8);
        Edge.refusedText(() -> eight(8), "rule", "s(x)=x", Edge.STATE, -1);
        Edge.refusedText(() -> eight(8), "rule", "a=b", Edge.STATE, -1);
        Edge.refusedText(() -> eight(8), "rule", "a=", Edge.ARGUMENT, 2);
    }

    private static void leftIsNoVariable() {
        Check.sentence("left is no VARIABLE");
        refusedRule("x=x");
        refusedRule("x=a");
        refusedRule("plus(x,e)=a");
        refusedRule("plus(e,plus(e,x))=x");
        SumRewriter x = Make.with(Make.BASE);
        Edge.taken(x, "rule", "a=a", 0);
        Edge.taken(x, "rule", "plus(e,e)=a", 1);
        Edge.taken(x, "rule", "un(x,e)=x", 2);
    }

    private static void variablesOfRight() {
        Check.sentence("right has no VARIABLES but such of left");
        refusedRule("a=x");
        refusedRule("s(x)=y");
        refusedRule("m(x,z)=un(x,plus(z,s(y)))");
        SumRewriter x = Make.with(Make.BASE);
        Edge.taken(x, "rule", "s(x)=a", 0);
        Edge.taken(x, "rule", "s(x)=m(x,x)", 1);
        Edge.taken(x, "rule", "m(x,un(y,z))=plus(z,x)", 2);
    }

    private static void onAtFirst() {
        Check.sentence("Each is ON (at first), or OFF");
        SumRewriter x = eight(1);
        Check.due("on", x.count(4), 1);
        x.turn(0, false);
        Check.due("off", x.count(4), 0);
        Edge.taken(x, "rule", "a=b", 1);
        Check.due("another", x.count(4), 2);
        SumRewriter full = eight(8);
        Check.due("all", full.count(4), 255);
    }
}
