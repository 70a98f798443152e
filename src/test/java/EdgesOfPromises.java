/** The document's promises 1 to 30: a test for each sentence that names an edge; refused calls change nothing. */
public final class EdgesOfPromises {
    private static final int MIN = Integer.MIN_VALUE;
    private static final int MAX = Integer.MAX_VALUE;
    private static final int BLANKS = 0x20202020;

    private EdgesOfPromises() {
    }

    public static void main(String[] args) {
        newObject();
        feedUpTo400();
        bytesOfNumbers();
        endOfTape();
        signatureStartsAnew();
        signatureRefused();
        termTold();
        termRefused();
        ruleTold();
        ruleRefused();
        faultOfTheLatest();
        turned();
        turnRefused();
        operatorTold();
        operatorRefused();
        aboutTold();
        aboutRefused();
        orderTold();
        rankTold();
        showTold();
        placeTold();
        sideTold();
        matchesTold();
        boundTold();
        boundRefused();
        fillTold();
        joinTold();
        stepsTold();
        stepTold();
        stepAtTold();
        atTopTold();
        walkTold();
        reachTold();
        reachedTold();
        meetTold();
        keepTold();
        keepRefused();
        octetTold();
        countTold();
        countOfMuch();
        Check.finish("EdgesOfPromises");
    }

    /** 7 operators, 3 variables, 5 terms, 3 rules, of which the last one is off. */
    private static SumRewriter furnished() {
        SumRewriter x = Make.with(Make.BASE, "plus(b,a)", "plus(x,y)", "un(s(a),m(a,b))", "x", "a");
        Make.rules(x, "s(x)=x", "plus(x,y)=s(x)", "a=b");
        x.turn(2, false);
        return x;
    }

    private static final Edge.Setup FURNISHED = EdgesOfPromises::furnished;

    private static void noSuch(String what, int n, Edge.Numbered call) {
        Edge.outside(what, FURNISHED, n, call, Edge.INDEX);
    }

    private static void refused(String what, Edge.Call call, String want) {
        Edge.refused(what, FURNISHED, call, want);
    }

    private static SumRewriter blank() {
        return new SumRewriter();
    }

    // ---- the tape and its texts ----

    private static void newObject() {
        Check.sentence("Promise 1: No OPERATORS, no VARIABLES");
        SumRewriter x = blank();
        for (int what = 0; what <= 8; what++) {
            Check.due("count " + what, x.count(what), 0);
        }
        Check.due("tape", x.end(1), false);
        Edge.refused("operator", EdgesOfPromises::blank, y -> y.operator(0, 0), Edge.INDEX);
        Edge.refused("join", EdgesOfPromises::blank, y -> y.join(0, 0, 0), Edge.INDEX);
        Edge.wrongText(EdgesOfPromises::blank, "term", "a", 0);
        Edge.wrongText(EdgesOfPromises::blank, "rule", "a=a", 0);
        Edge.Setup term = () -> Make.with("free a 0;", "a");
        Edge.refused("a variable where there is none", term, y -> y.bound(0, 0, 0, 0), Edge.INDEX);
        Edge.refused("filled where there is none", term, y -> y.fill(0, 0, 0), Edge.INDEX);
    }

    private static SumRewriter fed(int bytes) {
        SumRewriter x = blank();
        for (int n = 0; n < bytes; n += 20) {
            x.feed(BLANKS, BLANKS, BLANKS, BLANKS, BLANKS);
        }
        x.end(bytes);
        return x;
    }

    private static void feedUpTo400() {
        Check.sentence("Promise 2: how many it has; NONE, and none come, if it would have more than 400");
        SumRewriter x = blank();
        for (int n = 20; n <= 400; n += 20) {
            Check.due("feed", x.feed(BLANKS, BLANKS, BLANKS, BLANKS, BLANKS), n);
        }
        Check.due("at 400", x.feed(-1, -1, -1, -1, -1), -1);
        Check.due("it has 400 still", x.end(400), true);
        Edge.taken(fed(0), "signature", " ".repeat(400), 0);
        Check.due("they are blanks still", x.signature(), 0);
        Check.due("at 379", fed(379).feed(0, 0, 0, 0, 0), 399);
        Check.due("at 380", fed(380).feed(0, 0, 0, 0, 0), 400);
        SumRewriter y = fed(381);
        Check.due("at 381", y.feed(-1, -1, -1, -1, -1), -1);
        Check.due("not 382", y.end(382), false);
        Check.due("381", y.end(381), true);
        Check.due("blanks", y.signature(), 0);
        Check.due("empty again", y.feed(BLANKS, BLANKS, BLANKS, BLANKS, BLANKS), 20);
    }

    private static void bytesOfNumbers() {
        Check.sentence("Promise 2: Twenty bytes come behind the TAPE, of each number the highest first");
        SumRewriter x = blank();
        // "free", " ab0", ";var", " \n\tc", "d ; "
        x.feed(0x66726565, 0x20616230, 0x3b766172, 0x200a0963, 0x64203b20);
        Check.due("signature", x.signature(), 1);
        Check.due("variables", x.count(1), 1);
        x.feed(0x61620000, MIN, MAX, -1, 0);
        Check.due("end", x.end(2), true);
        Check.due("term", x.term(), 0);
        Edge.shows("term", x, y -> y.show(0), "ab");
        x.feed(BLANKS, BLANKS, BLANKS, BLANKS, 0x20202063);
        x.feed(0x64000000, 0, 0, 0, 0);
        x.end(21);
        Check.due("a word over two feeds", x.term(), 1);
        Edge.shows("that word", x, y -> y.show(1), "cd");
        for (int n : new int[] {MIN, 0x80000000 >> 1, -1, MAX, 0}) {
            x.feed(0x61620000 | n >>> 16, n, n, n, n);
            x.end(2);
            Check.due("a byte is not signed", x.term(), 0);
        }
    }

    private static void endOfTape() {
        Check.sentence("Promise 3: The TAPE has its first n bytes alone: true; false, and nothing happens, if it has fewer, or n is below 0");
        SumRewriter x = fed(20);
        for (int n : new int[] {21, 22, 400, 401, MAX, -1, -20, MIN}) {
            Check.due("end " + n, x.end(n), false);
            Check.due("20 are there still", x.feed(BLANKS, BLANKS, BLANKS, BLANKS, BLANKS), 40);
            Check.due("back to 20", x.end(20), true);
        }
        Check.due("19", x.end(19), true);
        Check.due("not 20 again", x.end(20), false);
        Check.due("none", x.end(0), true);
        Check.due("none of none", x.end(0), true);
        Check.due("one of none", x.end(1), false);
        SumRewriter full = fed(400);
        Check.due("401 of 400", full.end(401), false);
        Check.due("400 of 400", full.end(400), true);
        SumRewriter y = furnished();
        y.end(0);
        Check.text(y, "s(a)");
        y.end(5);
        y.end(-1);
        Check.due("what is there is the same", y.term(), 5);
        Edge.shows("it", y, z -> z.show(5), "s(a)");
    }

    private static void signatureStartsAnew() {
        Check.sentence("Promise 4: it is the SIGNATURE (no TERMS, no RULES then, nothing SHOWN)");
        for (String text : new String[] {Make.BASE, "free a 0;", ""}) {
            SumRewriter x = furnished();
            x.show(0);
            int n = text.isEmpty() ? 0 : text.equals(Make.BASE) ? 7 : 1;
            Edge.taken(x, "signature", text, n);
            int[] want = {n, n == 7 ? 3 : 0, 0, 0, 0, 0, 0, 0, 0};
            for (int what = 0; what <= 8; what++) {
                Check.due("count " + what, x.count(what), want[what]);
            }
            Check.due("byte 0", x.octet(0), -1);
            Check.due("rank", x.rank(0), -1);
            Edge.answers("keep", x, y -> y.keep(), Edge.STATE);
            Edge.answers("show", x, y -> y.show(0), Edge.INDEX);
            Edge.answers("side", x, y -> y.side(0, false), Edge.INDEX);
        }
        SumRewriter x = furnished();
        Edge.taken(x, "signature", "var s;free x 1;", 1);
        Edge.taken(x, "term", "x(s)", 0);
        Edge.taken(x, "rule", "x(s)=s", 0);
        Check.due("the rule is on", x.count(4), 1);
        Check.due("terms with the operator", x.operator(0, 3), 1);
    }

    private static void signatureRefused() {
        Check.sentence("Promise 4: IllegalArgumentException: the text is wrong");
        Edge.wrongText(FURNISHED, "signature", "free a 0;free a 0;", 14);
        Edge.wrongText(FURNISHED, "signature", "var x", 5);
        Edge.wrongText(FURNISHED, "signature", "s(a)", 0);
        Edge.wrongText(EdgesOfPromises::blank, "signature", "free a 0;c", 10);
    }

    private static void termTold() {
        Check.sentence("Promise 5: Uses the TAPE up: it is a TERM: its number");
        SumRewriter x = furnished();
        Edge.taken(x, "term", "plus(a,b)", 0);
        Edge.taken(x, "term", "b", 5);
        Edge.taken(x, "term", "s(b)", 6);
        Edge.taken(x, "term", "plus(b,e)", 5);
        Check.due("how many", x.count(2), 7);
        Edge.answers("the tape is empty", x, y -> y.term(), Edge.ARGUMENT);
    }

    private static void termRefused() {
        Check.sentence("Promise 5: IllegalArgumentException: the text is wrong; IllegalStateException: it is TOO GREAT, or there are 30 others");
        Edge.wrongText(FURNISHED, "term", "", 0);
        Edge.wrongText(FURNISHED, "term", "s(a)=a", 4);
        Edge.refusedText(FURNISHED, "term", Make.deep(20, "b"), Edge.STATE, -1);
        Edge.refusedText(FURNISHED, "term", "un(x,x,x,x,x,x,x)", Edge.STATE, -1);
        Edge.refusedText(Make::thirty, "term", "s(x)", Edge.STATE, -1);
        Edge.wrongText(Make::thirty, "term", "s(x", 3);
        Edge.refusedText(Make::thirty, "term", Make.deep(20, "a"), Edge.STATE, -1);
        Edge.taken(Make.thirty(), "term", Make.deep(19, "a"), 19);
    }

    private static void ruleTold() {
        Check.sentence("Promise 6: Uses the TAPE up: it is a RULE: its number");
        SumRewriter x = furnished();
        Edge.taken(x, "rule", "a=b", 3);
        Edge.taken(x, "rule", Make.deep(19, "x") + "=" + Make.deep(19, "x"), 4);
        Edge.taken(x, "rule", "un(x,x,x,x,x,x)=plus(a,a,a,a,a,a)", 5);
        Edge.taken(x, "rule", "plus(plus(x,e),plus(e,y),e)=plus(x,e)", 6);
        Edge.shows("as it stands", x, y -> y.side(6, false), "plus(x,y)");
        Edge.shows("right, too", x, y -> y.side(6, true), "x");
        Check.due("on", x.count(4), 1 + 2 + 8 + 16 + 32 + 64);
        Check.due("no terms are told by it", x.count(2), 5);
    }

    private static void ruleRefused() {
        Check.sentence("Promise 6: IllegalArgumentException: the text is wrong; IllegalStateException: one of both is TOO GREAT,"
                + " left is a VARIABLE, right has another VARIABLE, or there are 8");
        Edge.wrongText(FURNISHED, "rule", "", 0);
        Edge.wrongText(FURNISHED, "rule", "a", 1);
        Edge.wrongText(FURNISHED, "rule", "a=b=a", 3);
        Edge.wrongText(FURNISHED, "rule", Make.deep(20, "a") + "=(", 62);
        Edge.refusedText(FURNISHED, "rule", Make.deep(20, "a") + "=a", Edge.STATE, -1);
        Edge.refusedText(FURNISHED, "rule", "a=" + Make.deep(20, "a"), Edge.STATE, -1);
        Edge.refusedText(FURNISHED, "rule", "plus(a,a,a,a,a,a,a)=a", Edge.STATE, -1);
        Edge.refusedText(FURNISHED, "rule", "a=un(a,a,a,a,a,a,a)", Edge.STATE, -1);
        Edge.refusedText(FURNISHED, "rule", "x=x", Edge.STATE, -1);
        Edge.refusedText(FURNISHED, "rule", "s(x)=m(x,z)", Edge.STATE, -1);
        Edge.Setup eight = () -> Make.rules(furnished(), "a=b", "a=b", "a=b", "a=b", "a=b");
        Check.due("there are 8", eight.make().count(3), 8);
        Edge.refusedText(eight, "rule", "a=b", Edge.STATE, -1);
        Edge.wrongText(eight, "rule", "a=q", 2);
    }

    private static void faultOfTheLatest() {
        Check.sentence("Promise 7: FAULT of the latest text that was read; NONE without one, and ahead of any");
        SumRewriter x = blank();
        Check.due("ahead of any", x.fault(), -1);
        Check.text(x, "free");
        Check.due("not read yet", x.fault(), -1);
        Edge.answers("signature", x, y -> y.signature(), Edge.ARGUMENT);
        Check.due("its fault", x.fault(), 4);
        Check.due("asked again", x.fault(), 4);
        Edge.answers("an empty one", x, y -> y.term(), Edge.ARGUMENT);
        Check.due("its fault", x.fault(), 0);
        Edge.taken(x, "signature", Make.BASE, 7);
        Edge.answers("an empty one", x, y -> y.rule(), Edge.ARGUMENT);
        Check.due("its fault", x.fault(), 0);
        Edge.taken(x, "term", "s(a)", 0);
        Check.text(x, "s(q)");
        Edge.answers("a wrong one", x, y -> y.term(), Edge.ARGUMENT);
        Check.due("its fault", x.fault(), 2);
        Check.text(x, Make.deep(20, "a"));
        Edge.answers("one too great has no fault", x, y -> y.term(), Edge.STATE);
        Check.due("none", x.fault(), -1);
        Check.text(x, "s(a)=b c");
        Edge.answers("a wrong rule", x, y -> y.rule(), Edge.ARGUMENT);
        Check.due("its fault", x.fault(), 7);
        x.show(0);
        x.keep();
        x.end(0);
        x.feed(0, 0, 0, 0, 0);
        Check.due("what reads no text leaves it", x.fault(), 7);
        x.end(0);
        Check.text(x, "x=a");
        Edge.answers("a rule that cannot be has no fault", x, y -> y.rule(), Edge.STATE);
        Check.due("none", x.fault(), -1);
    }

    // ---- what is told ----

    private static void turned() {
        Check.sentence("Promise 8: A RULE is ON, or OFF: whether it was otherwise");
        SumRewriter x = Make.rules(furnished(), "a=b", "a=b", "a=b", "a=b", "a=b");
        int bits = 255 - 4;
        for (int r = 0; r < 8; r++) {
            boolean was = (bits >> r & 1) != 0;
            Check.due("on " + r, x.turn(r, true), !was);
            Check.due("on again " + r, x.turn(r, true), false);
            Check.due("off " + r, x.turn(r, false), true);
            Check.due("off again " + r, x.turn(r, false), false);
            bits &= ~(1 << r);
            Check.due("bits", x.count(4), bits);
        }
        Check.due("the first one on", x.turn(0, true), true);
        Check.due("the last one on", x.turn(7, true), true);
        Check.due("bits", x.count(4), 129);
        Check.due("all are there", x.count(3), 8);
    }

    private static void turnRefused() {
        Check.sentence("Promise 8: IndexOutOfBoundsException: there is no such RULE");
        noSuch("rule", 3, (x, r) -> x.turn(r, false));
        noSuch("rule", 3, (x, r) -> x.turn(r, true));
        Edge.refused("without rules", EdgesOfPromises::blank, x -> x.turn(0, true), Edge.INDEX);
    }

    private static void operatorTold() {
        Check.sentence("Promise 9: 2 its unit (NONE), 3 TERMS told that have it anywhere, as bits");
        SumRewriter x = furnished();
        int[][] want = {{0, 0, -1, 21}, {0, 0, -1, 5}, {0, 0, -1, 0}, {0, 1, -1, 4}, {1, 2, -1, 4}, {2, 2, 2, 3}, {2, 2, -1, 4}};
        for (int o = 0; o < 7; o++) {
            for (int what = 0; what < 4; what++) {
                Check.due("operator " + o + " what " + what, x.operator(o, what), want[o][what]);
            }
        }
        Check.due("the thirtieth's bit", Make.thirty().operator(1, 3), 1023 << 20);
        Check.due("all but its bits", Make.thirty().operator(0, 3), (1 << 20) - 1);
        Check.due("all but two", Make.thirty().operator(3, 3), (1 << 30) - 1 - 1 - (1 << 20));
    }

    private static void operatorRefused() {
        Check.sentence("Promise 9: NoSuchElementException: another what");
        Edge.outside("what", FURNISHED, 4, (x, what) -> x.operator(0, what), Edge.NO_SUCH);
        Edge.outside("what of the last", FURNISHED, 4, (x, what) -> x.operator(6, what), Edge.NO_SUCH);
        noSuch("operator", 7, (x, o) -> x.operator(o, 0));
        noSuch("operator, with another what", 7, (x, o) -> x.operator(o, o < 0 || o > 6 ? 9 : 0));
    }

    private static void aboutTold() {
        Check.sentence("Promise 10: 0 its OPERATOR (NONE of a VARIABLE), 1 its VARIABLE (NONE), .. 4 how deep (0 of one without PARTS)");
        SumRewriter x = Make.with(Make.BASE, "x", "z", "a", "un(x,x)", "plus(a,a,a,a,a,z)", Make.deep(19, "z"),
                "m(s(x),plus(a,un(x,y)))", Make.deep(19, "b"));
        int[][] want = {{-1, 0, 0, 1, 0, 1, 0, 0, 1}, {-1, 2, 0, 1, 0, 4, 0, 0, 1}, {0, -1, 0, 1, 0, 0, 1, 0, 0},
            {6, -1, 2, 3, 1, 1, 64, 0, 2}, {5, -1, 6, 7, 1, 4, 33, 0, 1}, {3, -1, 1, 20, 19, 4, 8, 0, 1},
            {4, -1, 2, 8, 3, 3, 8 + 16 + 32 + 64 + 1, 0, 3}, {3, -1, 1, 20, 19, 0, 10, 0, 0}};
        for (int t = 0; t < want.length; t++) {
            for (int what = 0; what <= 8; what++) {
                Check.due("term " + t + " what " + what, x.about(t, what), want[t][what]);
            }
        }
        SumRewriter y = Make.with("free a 0;free b 0;free d 0;free f 0;free h 0;free i 0;free j 0;free k 0;free l 1;ac un;"
                + "var m;var n;var o;var p;var q;", "un(l(k),m,n,o,p,q)");
        Check.due("all variables", y.about(0, 5), 31);
        Check.due("the last operators", y.about(0, 6), 128 + 256 + 512);
        Make.rules(y, "l(q)=q", "un(q,p)=q", "l(q)=q", "l(q)=q", "l(q)=q", "l(q)=q", "a=b", "un(l(q),l(p))=p");
        Check.due("could", y.about(0, 7), 2);
        y.turn(1, false);
        Check.due("could by none", y.about(0, 7), 0);
    }

    private static void aboutRefused() {
        Check.sentence("Promise 10: NoSuchElementException: another what");
        Edge.outside("what", FURNISHED, 9, (x, what) -> x.about(0, what), Edge.NO_SUCH);
        Edge.outside("what of a variable", FURNISHED, 9, (x, what) -> x.about(3, what), Edge.NO_SUCH);
        noSuch("term", 5, (x, t) -> x.about(t, 0));
        noSuch("term, with another what", 5, (x, t) -> x.about(t, t < 0 || t > 4 ? -1 : 8));
    }

    private static void orderTold() {
        Check.sentence("Promise 11: Below 0, 0, above 0 (-1, 0, 1)");
        SumRewriter x = furnished();
        int[] rank = {3, 2, 4, 0, 1};
        for (int s = 0; s < 5; s++) {
            for (int t = 0; t < 5; t++) {
                Check.due("order " + s + " " + t, x.order(s, t), Integer.compare(rank[s], rank[t]));
            }
        }
        noSuch("first", 5, (y, t) -> y.order(t, 0));
        noSuch("other", 5, (y, t) -> y.order(0, t));
        noSuch("both", 5, (y, t) -> y.order(t, t));
        Edge.refused("of none", EdgesOfPromises::blank, y -> y.order(0, 0), Edge.INDEX);
    }

    private static void rankTold() {
        Check.sentence("Promise 12: The k-th TERM told in ORDER; NONE without");
        SumRewriter x = furnished();
        int[] want = {3, 4, 1, 0, 2};
        for (int k = 0; k < 5; k++) {
            Check.due("rank " + k, x.rank(k), want[k]);
        }
        for (int k : new int[] {5, 6, 29, 30, 31, 32, 64, MAX, -1, -5, MIN}) {
            Check.due("rank " + k, x.rank(k), -1);
        }
        Check.due("of none", blank().rank(0), -1);
        SumRewriter full = Make.thirty();
        Check.due("the first of 30", full.rank(0), 0);
        Check.due("the second", full.rank(1), 20);
        Check.due("the last", full.rank(29), 19);
        Check.due("one more", full.rank(30), -1);
    }

    // ---- what is shown ----

    private static void showTold() {
        Check.sentence("Promise 13: A TERM is SHOWN: how many bytes");
        SumRewriter x = furnished();
        String[] want = {"plus(a,b)", "plus(x,y)", "un(s(a),m(a,b))", "x", "a"};
        for (int t = 0; t < 5; t++) {
            int i = t;
            Edge.shows("term " + t, x, y -> y.show(i), want[t]);
            Check.due("bytes of " + t, x.count(5), want[t].length());
        }
        Edge.shows("30th", Make.thirty(), y -> y.show(29), Make.deep(9, "b"));
        noSuch("term", 5, (y, t) -> y.show(t));
        Edge.refused("of none", EdgesOfPromises::blank, y -> y.show(0), Edge.INDEX);
        SumRewriter y = Make.with("free aaaaaa 0;free bbbbbb 1;", "bbbbbb(".repeat(19) + "aaaaaa" + ")".repeat(19));
        Edge.shows("a long one", y, z -> z.show(0), "bbbbbb(".repeat(19) + "aaaaaa" + ")".repeat(19));
        Check.due("its bytes", y.count(5), 158);
        Check.due("its last byte", y.octet(157), (int) ')');
        Check.due("no more", y.octet(158), -1);
    }

    private static void placeTold() {
        Check.sentence("Promise 14: The k-th PLACE of a TERM is SHOWN. NoSuchElementException: there is none such");
        SumRewriter x = furnished();
        String[] want = {"un(s(a),m(a,b))", "s(a)", "a", "m(a,b)", "a", "b"};
        for (int k = 0; k < want.length; k++) {
            int i = k;
            Edge.shows("place " + k, x, y -> y.place(2, i), want[k]);
        }
        Edge.outside("place", FURNISHED, 6, (y, k) -> y.place(2, k), Edge.NO_SUCH);
        Edge.outside("place of a variable", FURNISHED, 1, (y, k) -> y.place(3, k), Edge.NO_SUCH);
        noSuch("term", 5, (y, t) -> y.place(t, 0));
        noSuch("term, without such a place", 5, (y, t) -> y.place(t, t < 0 || t > 4 ? 99 : 0));
        SumRewriter y = Make.with(Make.BASE, Make.deep(19, "x"));
        Edge.shows("place 19", y, z -> z.place(0, 19), "x");
        Edge.answers("place 20", y, z -> z.place(0, 20), Edge.NO_SUCH);
    }

    private static void sideTold() {
        Check.sentence("Promise 15: Left of a RULE (right false), or right, is SHOWN");
        SumRewriter x = Make.rules(furnished(), "a=b", "a=b", "a=b", "a=b", "m(e,x)=plus(x,e)");
        Edge.shows("left of the first", x, y -> y.side(0, false), "s(x)");
        Edge.shows("right of the first", x, y -> y.side(0, true), "x");
        Edge.shows("left of one that is off", x, y -> y.side(2, false), "a");
        Edge.shows("left of the last", x, y -> y.side(7, false), "m(x,e)");
        Edge.shows("right of the last", x, y -> y.side(7, true), "x");
        noSuch("rule", 3, (y, r) -> y.side(r, false));
        noSuch("rule", 3, (y, r) -> y.side(r, true));
        Edge.refused("of none", EdgesOfPromises::blank, y -> y.side(0, true), Edge.INDEX);
    }

    // ---- matches ----

    private static SumRewriter tooMany() {
        return Make.with(Make.BASE, "plus(x,y,z)", "plus(a,b,s(a),s(b),s(s(a)),s(s(b)))", "plus(a,b,s(a),s(b),s(s(a)))", "a");
    }

    private static void matchesTold() {
        Check.sentence("Promise 16: MATCHES of a PATTERN and a TERM: how many. IllegalStateException: TOO MUCH");
        Edge.answers("3^5", tooMany(), x -> x.matches(0, 2), 243);
        Edge.answers("3", tooMany(), x -> x.matches(0, 3), 3);
        Edge.answers("one", tooMany(), x -> x.matches(3, 3), 1);
        Edge.answers("none", tooMany(), x -> x.matches(3, 1), 0);
        Edge.refused("3^6", EdgesOfPromises::tooMany, x -> x.matches(0, 1), Edge.STATE);
        noSuch("pattern", 5, (x, t) -> x.matches(t, 0));
        noSuch("term", 5, (x, t) -> x.matches(1, t));
        Edge.refused("of none", EdgesOfPromises::blank, x -> x.matches(0, 0), Edge.INDEX);
        SumRewriter off = furnished();
        Check.due("what is shown stays", off.matches(1, 0) * 10 + off.count(5), 40);
    }

    private static void boundTold() {
        Check.sentence("Promise 17: What a VARIABLE has in the k-th MATCH is SHOWN. NoSuchElementException: there is no such MATCH,"
                + " or the VARIABLE is not in the PATTERN");
        SumRewriter x = furnished();
        String[] wantX = {"a", "b", "e", "plus(a,b)"};
        String[] wantY = {"b", "a", "plus(a,b)", "e"};
        for (int k = 0; k < 4; k++) {
            int i = k;
            Edge.shows("x of " + k, x, y -> y.bound(1, 0, i, 0), wantX[k]);
            Edge.shows("y of " + k, x, y -> y.bound(1, 0, i, 1), wantY[k]);
        }
        Edge.outside("match", FURNISHED, 4, (y, k) -> y.bound(1, 0, k, 0), Edge.NO_SUCH);
        refused("without matches", y -> y.bound(1, 1, 9, 0), Edge.NO_SUCH);
        refused("none at all", y -> y.bound(0, 2, 0, 0), Edge.NO_SUCH);
        refused("a variable that is not in it", y -> y.bound(1, 0, 0, 2), Edge.NO_SUCH);
        refused("a match, but no variable in it", y -> y.bound(4, 4, 0, 0), Edge.NO_SUCH);
        Edge.shows("the last of 243", tooMany(), y -> y.bound(0, 2, 242, 2), "e");
        Edge.answers("one more", tooMany(), y -> y.bound(0, 2, 243, 2), Edge.NO_SUCH);
    }

    private static void boundRefused() {
        Check.sentence("Promise 17: IndexOutOfBoundsException; IllegalStateException: TOO MUCH");
        noSuch("pattern", 5, (x, t) -> x.bound(t, 0, 0, 0));
        noSuch("term", 5, (x, t) -> x.bound(1, t, 0, 0));
        noSuch("variable", 3, (x, v) -> x.bound(1, 0, 0, v));
        noSuch("variable, without such a match", 3, (x, v) -> x.bound(1, 0, v < 0 || v > 2 ? 99 : 0, v));
        Edge.refused("too much", EdgesOfPromises::tooMany, x -> x.bound(0, 1, 0, 0), Edge.STATE);
        Edge.refused("too much, no such match", EdgesOfPromises::tooMany, x -> x.bound(0, 1, MIN, 0), Edge.STATE);
        Edge.refused("too much, no such variable", EdgesOfPromises::tooMany, x -> x.bound(0, 1, 0, 3), Edge.INDEX);
    }

    // ---- terms put together ----

    private static SumRewriter toFill() {
        return Make.with(Make.BASE, Make.deep(9, "x"), Make.deep(10, "a"), Make.deep(11, "a"), "plus(x,a,a,a,a)", "plus(b,b)",
                "plus(b,b,b)", "e", "x", "m(y,x)", "un(x,x,x,x,x,x)", "un(a,b)");
    }

    private static void fillTold() {
        Check.sentence("Promise 18: A TERM with a VARIABLE put in as another TERM is SHOWN. IllegalStateException: it is TOO GREAT");
        SumRewriter x = toFill();
        Edge.shows("size 20", x, y -> y.fill(0, 0, 1), Make.deep(19, "a"));
        Edge.refused("size 21", EdgesOfPromises::toFill, y -> y.fill(0, 0, 2), Edge.STATE);
        Edge.shows("6 parts", x, y -> y.fill(3, 0, 4), "plus(a,a,a,a,b,b)");
        Edge.refused("7 parts", EdgesOfPromises::toFill, y -> y.fill(3, 0, 5), Edge.STATE);
        Edge.refused("12 parts", EdgesOfPromises::toFill, y -> y.fill(9, 0, 10), Edge.STATE);
        Edge.shows("the unit", x, y -> y.fill(3, 0, 6), "plus(a,a,a,a)");
        Edge.shows("a variable alone", x, y -> y.fill(7, 0, 5), "plus(b,b,b)");
        Edge.shows("another variable", x, y -> y.fill(8, 0, 8), "m(y,m(x,y))");
        Edge.shows("a variable that is not in it", x, y -> y.fill(8, 2, 2), "m(x,y)");
        Edge.shows("without variables", x, y -> y.fill(5, 0, 2), "plus(b,b,b)");
        noSuch("term", 5, (y, t) -> y.fill(t, 0, 0));
        noSuch("variable", 3, (y, v) -> y.fill(0, v, 0));
        noSuch("by", 5, (y, t) -> y.fill(1, 0, t));
        Edge.refused("too great, no such variable", EdgesOfPromises::toFill, y -> y.fill(0, 3, 2), Edge.INDEX);
    }

    private static SumRewriter toJoin() {
        return Make.with(Make.BASE, Make.deep(8, "a"), Make.deep(9, "b"), Make.deep(9, "a"), "plus(a,a,a)", "plus(b,b,b)",
                "plus(x,b,b,b)", "e", "un(a,b)");
    }

    private static void joinTold() {
        Check.sentence("Promise 19: IllegalArgumentException: the OPERATOR is not ac; IllegalStateException: it is TOO GREAT");
        SumRewriter x = toJoin();
        Edge.shows("size 20", x, y -> y.join(6, 0, 1), "un(" + Make.deep(8, "a") + "," + Make.deep(9, "b") + ")");
        Edge.refused("size 21", EdgesOfPromises::toJoin, y -> y.join(6, 2, 1), Edge.STATE);
        Edge.shows("6 parts", x, y -> y.join(5, 3, 4), "plus(a,a,a,b,b,b)");
        Edge.refused("7 parts", EdgesOfPromises::toJoin, y -> y.join(5, 3, 5), Edge.STATE);
        Edge.shows("by the other", x, y -> y.join(6, 3, 5), "un(plus(a,a,a),plus(x,b,b,b))");
        Edge.shows("with the unit", x, y -> y.join(5, 6, 7), "un(a,b)");
        Edge.shows("units", x, y -> y.join(5, 6, 6), "e");
        Edge.shows("no units", x, y -> y.join(6, 6, 6), "un(e,e)");
        Edge.shows("with itself", x, y -> y.join(6, 7, 7), "un(a,a,b,b)");
        for (int o = 0; o <= 4; o++) {
            int op = o;
            Edge.refused("operator " + o, EdgesOfPromises::toJoin, y -> y.join(op, 3, 5), Edge.ARGUMENT);
            Edge.refused("operator " + o + ", no such term", EdgesOfPromises::toJoin, y -> y.join(op, 3, 8), Edge.INDEX);
        }
        noSuch("operator", 7, (y, o) -> y.join(o, 0, 0));
        noSuch("term", 5, (y, t) -> y.join(5, t, 0));
        noSuch("other", 5, (y, t) -> y.join(5, 0, t));
    }

    // ---- steps ----

    private static void stepsTold() {
        Check.sentence("Promise 20: STEPS of a TERM: how many");
        SumRewriter x = furnished();
        // By plus(x,y)=s(x), which has a unit, plus(a,b) becomes s(a), s(b), s(e), s(plus(a,b)) as a whole; with b beside
        // s(a) and s(e), with a beside s(b) and s(e), with both beside s(e) by some parts; and each part has two of its own.
        // The third one has one by s(x)=x, and two at each of its six places.
        int[] want = {4 + 5 + 2 + 2, 4 + 5 + 2 + 2, 1 + 6 * 2, 2, 2};
        for (int t = 0; t < 5; t++) {
            Check.due("steps of " + t, x.steps(t), want[t]);
        }
        x.turn(1, false);
        int[] fewer = {0, 0, 1, 0, 0};
        for (int t = 0; t < 5; t++) {
            Check.due("without the sum's rule, of " + t, x.steps(t), fewer[t]);
        }
        x.turn(0, false);
        Check.due("with no rule on", x.steps(2), 0);
        noSuch("term", 5, (y, t) -> y.steps(t));
        Edge.refused("of none", EdgesOfPromises::blank, y -> y.steps(0), Edge.INDEX);
        Edge.refused("too much", () -> Make.rules(tooMany(), "plus(x,y,z)=a"), y -> y.steps(1), Edge.STATE);
    }

    private static SumRewriter few() {
        SumRewriter x = Make.with(Make.BASE, "m(s(a),b)", "x", "plus(a,b,s(a),s(b),s(s(a)),s(s(b)))");
        return Make.rules(x, "s(x)=x", "b=e", "plus(x,y,z)=a");
    }

    private static void stepTold() {
        Check.sentence("Promise 21: The k-th STEP of a TERM: the TERM behind it is SHOWN. NoSuchElementException: there is none such");
        SumRewriter x = Make.only(few(), 0, 1);
        // the parts stand as b, s(a)
        Edge.shows("step 0", x, y -> y.step(0, 0), "m(e,s(a))");
        Edge.shows("step 1", x, y -> y.step(0, 1), "m(a,b)");
        Edge.Setup two = () -> Make.only(few(), 0, 1);
        Edge.outside("step", two, 2, (y, k) -> y.step(0, k), Edge.NO_SUCH);
        Edge.refused("of a normal one", two, y -> y.step(1, 0), Edge.NO_SUCH);
        Edge.outside("term", two, 3, (y, t) -> y.step(t, 0), Edge.INDEX);
        Edge.refused("too much", EdgesOfPromises::few, y -> y.step(2, 0), Edge.STATE);
        Edge.refused("too much, no such step", EdgesOfPromises::few, y -> y.step(2, -1), Edge.STATE);
    }

    private static void stepAtTold() {
        Check.sentence("Promise 22: Of the k-th STEP what 0 its PLACE, 1 its RULE. NoSuchElementException: there is none such, another what");
        SumRewriter x = Make.only(few(), 0, 1);
        int[][] want = {{1, 1}, {2, 0}};
        for (int k = 0; k < 2; k++) {
            Check.due("place of " + k, x.stepAt(0, k, 0), want[k][0]);
            Check.due("rule of " + k, x.stepAt(0, k, 1), want[k][1]);
        }
        Edge.Setup two = () -> Make.only(few(), 0, 1);
        Edge.outside("step", two, 2, (y, k) -> y.stepAt(0, k, 0), Edge.NO_SUCH);
        Edge.outside("what", two, 2, (y, what) -> y.stepAt(0, 0, what), Edge.NO_SUCH);
        Edge.outside("term", two, 3, (y, t) -> y.stepAt(t, 0, 0), Edge.INDEX);
        Edge.refused("of a normal one", two, y -> y.stepAt(1, 0, 0), Edge.NO_SUCH);
        Edge.refused("too much", EdgesOfPromises::few, y -> y.stepAt(2, 0, 0), Edge.STATE);
        Edge.refused("too much, another what", EdgesOfPromises::few, y -> y.stepAt(2, 0, 2), Edge.STATE);
        Edge.refused("no such term, another what", EdgesOfPromises::few, y -> y.stepAt(3, 0, 2), Edge.INDEX);
    }

    private static void atTopTold() {
        Check.sentence("Promise 23: STEPS of a TERM by a RULE (ON or not) alone, at PLACE 0: how many");
        SumRewriter x = Make.with(Make.BASE, "s(s(a))", "un(s(a),s(a))", "a", "plus(a,b)");
        Make.rules(x, "s(x)=x", "un(x,y)=x", "a=a", "a=b", "plus(x,y)=plus(y,x)", "plus(x,x)=s(a)");
        int[][] want = {{1, 0, 0, 0, 0, 0}, {0, 1, 0, 0, 0, 0}, {0, 0, 0, 1, 0, 0}, {0, 0, 0, 0, 0, 1}};
        for (int t = 0; t < 4; t++) {
            for (int r = 0; r < 6; r++) {
                Check.due("term " + t + " rule " + r, x.atTop(t, r), want[t][r]);
                x.turn(r, false);
                Check.due("off, term " + t + " rule " + r, x.atTop(t, r), want[t][r]);
                Check.due("it stays off", x.turn(r, true), true);
            }
        }
        noSuch("term", 5, (y, t) -> y.atTop(t, 0));
        noSuch("rule", 3, (y, r) -> y.atTop(0, r));
        Edge.refused("no rules", () -> Make.with(Make.BASE, "a"), y -> y.atTop(0, 0), Edge.INDEX);
        Edge.refused("too much", EdgesOfPromises::few, y -> y.atTop(2, 2), Edge.STATE);
        Edge.refused("too much by one that is off", () -> Make.only(few(), 0), y -> y.atTop(2, 2), Edge.STATE);
        Edge.answers("not by another one", few(), y -> y.atTop(2, 0), 0);
    }

    private static void walkTold() {
        Check.sentence("Promise 24: WALK: how many STEPS; the last TERM is SHOWN. IllegalStateException: TOO MUCH");
        SumRewriter x = Make.only(few(), 0, 1);
        Edge.answers("two", x, y -> y.walk(0), 2);
        Check.due("the last", Check.shown(x), "m(a,e)");
        Check.due("its bytes", x.count(5), 6);
        Edge.answers("none", x, y -> y.walk(1), 0);
        Check.due("itself", Check.shown(x), "x");
        Check.due("nothing is told", x.count(2), 3);
        Edge.outside("term", () -> Make.only(few(), 0, 1), 3, (y, t) -> y.walk(t), Edge.INDEX);
        Edge.refused("too much", EdgesOfPromises::few, y -> y.walk(2), Edge.STATE);
        SumRewriter one = Make.rules(Make.with(Make.BASE, "m(a,a)"), "a=b");
        Edge.answers("to the end", one, y -> y.walk(0), 2);
        Check.due("the end", Check.shown(one), "m(b,b)");
    }

    private static void reachTold() {
        Check.sentence("Promise 25: REACHED by n: how many (normal false), or how many of these are NORMAL");
        Edge.Setup two = () -> Make.only(few(), 0, 1);
        int[] all = {1, 3, 4, 4, 4};
        int[] normal = {0, 0, 1, 1, 1};
        for (int n = 0; n <= 4; n++) {
            int m = n;
            Edge.answers("by " + n, two.make(), y -> y.reach(0, m, false), all[n]);
            Edge.answers("normal by " + n, two.make(), y -> y.reach(0, m, true), normal[n]);
            Edge.answers("of a normal one by " + n, two.make(), y -> y.reach(1, m, true), 1);
        }
        Edge.outside("term", two, 3, (y, t) -> y.reach(t, 0, false), Edge.INDEX);
        Edge.outside("n", two, 5, (y, n) -> y.reach(0, n, true), Edge.ARGUMENT);
        Edge.refused("no such term, n is none", two, y -> y.reach(3, 5, false), Edge.INDEX);
        Edge.refused("too much", EdgesOfPromises::few, y -> y.reach(2, 1, false), Edge.STATE);
        Edge.refused("too much, n is none", EdgesOfPromises::few, y -> y.reach(2, 5, false), Edge.ARGUMENT);
        Edge.answers("by 0 it is not", few(), y -> y.reach(2, 0, false), 1);
    }

    private static void reachedTold() {
        Check.sentence("Promise 26: The k-th of REACHED by n (or of those that are NORMAL) by ORDER is SHOWN."
                + " NoSuchElementException: there is none such");
        Edge.Setup two = () -> Make.only(few(), 0, 1);
        String[] want = {"m(a,b)", "m(a,e)", "m(b,s(a))", "m(e,s(a))"};
        for (int k = 0; k < 4; k++) {
            int i = k;
            Edge.shows("by 2, " + k, two.make(), y -> y.reached(0, 2, false, i), want[k]);
        }
        Edge.shows("normal", two.make(), y -> y.reached(0, 4, true, 0), "m(a,e)");
        Edge.shows("by 0", two.make(), y -> y.reached(0, 0, false, 0), "m(b,s(a))");
        Edge.outside("k by 2", two, 4, (y, k) -> y.reached(0, 2, false, k), Edge.NO_SUCH);
        Edge.outside("k by 0", two, 1, (y, k) -> y.reached(0, 0, false, k), Edge.NO_SUCH);
        Edge.outside("normal k", two, 1, (y, k) -> y.reached(0, 4, true, k), Edge.NO_SUCH);
        Edge.refused("none is normal", two, y -> y.reached(0, 1, true, 0), Edge.NO_SUCH);
        Edge.outside("term", two, 3, (y, t) -> y.reached(t, 0, false, 0), Edge.INDEX);
        Edge.outside("n", two, 5, (y, n) -> y.reached(0, n, false, 0), Edge.ARGUMENT);
        Edge.refused("n is none, k, too", two, y -> y.reached(0, 5, false, 99), Edge.ARGUMENT);
        Edge.refused("too much", EdgesOfPromises::few, y -> y.reached(2, 1, false, 0), Edge.STATE);
        Edge.refused("too much, k is none", EdgesOfPromises::few, y -> y.reached(2, 1, false, 99), Edge.STATE);
        Edge.refused("too much where normal ones are told", EdgesOfPromises::few, y -> y.reached(2, 0, true, 0), Edge.STATE);
    }

    private static void meetTold() {
        Check.sentence("Promise 27: MEET by n; NONE. IllegalArgumentException: n is none (0 to 4); IllegalStateException: TOO MUCH");
        SumRewriter x = Make.with(Make.BASE, "s(a)", "s(s(s(b)))", "a", "x");
        Make.rules(x, "s(x)=x", "b=a");
        int[] want = {-1, -1, -1, 3, 3};
        for (int n = 0; n <= 4; n++) {
            Check.due("by " + n, x.meet(1, 0, n), want[n]);
            Check.due("none by " + n, x.meet(0, 3, n), -1);
            Check.due("itself by " + n, x.meet(0, 0, n), 0);
        }
        Edge.Setup two = () -> Make.only(few(), 0, 1);
        Edge.outside("term", two, 3, (y, t) -> y.meet(t, 0, 0), Edge.INDEX);
        Edge.outside("other", two, 3, (y, t) -> y.meet(0, t, 0), Edge.INDEX);
        Edge.outside("n", two, 5, (y, n) -> y.meet(0, 1, n), Edge.ARGUMENT);
        Edge.refused("no such other, n is none", two, y -> y.meet(0, 3, 5), Edge.INDEX);
        Edge.refused("too much", EdgesOfPromises::few, y -> y.meet(2, 0, 1), Edge.STATE);
        Edge.refused("too much of the other", EdgesOfPromises::few, y -> y.meet(0, 2, 1), Edge.STATE);
        Edge.refused("too much, n is none", EdgesOfPromises::few, y -> y.meet(2, 0, -1), Edge.ARGUMENT);
        Edge.answers("met ahead of it", few(), y -> y.meet(2, 2, 4), 0);
        Edge.answers("n comes ahead of it", few(), y -> y.meet(2, 0, 0), -1);
    }

    // ---- kept, told, counted ----

    private static void keepTold() {
        Check.sentence("Promise 28: What is SHOWN is a TERM told now: its number");
        SumRewriter x = furnished();
        x.show(2);
        Edge.answers("told already", x, y -> y.keep(), 2);
        x.place(2, 3);
        Edge.answers("told now", x, y -> y.keep(), 5);
        Edge.answers("again", x, y -> y.keep(), 5);
        Check.due("it is shown still", Check.shown(x), "m(a,b)");
        Check.due("how many", x.count(2), 6);
        SumRewriter full = Make.thirty();
        full.place(29, 9);
        Edge.answers("told already, of 30", full, y -> y.keep(), 20);
        SumRewriter last = Make.with(Make.BASE);
        for (int i = 0; i < 29; i++) {
            Check.term(last, i < 20 ? Make.deep(i, "a") : Make.deep(i - 20, "b"));
        }
        last.join(6, 0, 0);
        Edge.answers("the thirtieth", last, y -> y.keep(), 29);
        last.join(6, 1, 1);
        Edge.answers("one more", last, y -> y.keep(), Edge.STATE);
    }

    private static SumRewriter fullAndShown() {
        SumRewriter x = Make.thirty();
        Make.rules(x, "s(b)=un(a,b)");
        return x;
    }

    private static void keepRefused() {
        Check.sentence("Promise 28: IllegalStateException: nothing is SHOWN, or there are 30 others");
        SumRewriter x = blank();
        Edge.answers("of a new object", x, y -> y.keep(), Edge.STATE);
        Check.due("nothing is told", x.count(2), 0);
        SumRewriter y = furnished();
        Edge.answers("nothing is shown", y, z -> z.keep(), Edge.STATE);
        Check.due("five are told", y.count(2), 5);
        Edge.refused("there are 30 others", EdgesOfPromises::fullAndShown, z -> {
            z.side(0, true);
            Check.ask("keep", () -> z.keep(), Edge.STATE);
            return z.show(29);
        }, String.valueOf(Make.deep(9, "b").length()));
        SumRewriter full = fullAndShown();
        full.side(0, true);
        Edge.answers("there are 30 others", full, z -> z.keep(), Edge.STATE);
        Check.due("it is shown still", Check.shown(full), "un(a,b)");
        Check.due("30", full.count(2), 30);
    }

    private static void octetTold() {
        Check.sentence("Promise 29: Byte k of what is SHOWN; NONE without");
        SumRewriter x = furnished();
        Check.due("nothing is shown", x.octet(0), -1);
        x.show(0);
        for (int k = 0; k < 9; k++) {
            Check.due("byte " + k, x.octet(k), (int) "plus(a,b)".charAt(k));
        }
        for (int k : new int[] {9, 10, 255, 256, 400, MAX, -1, -9, MIN}) {
            Check.due("byte " + k, x.octet(k), -1);
        }
        x.show(3);
        Check.due("byte 0 of x", x.octet(0), (int) 'x');
        Check.due("byte 1 of x", x.octet(1), -1);
    }

    private static void countTold() {
        Check.sentence("Promise 30: .. NONE for another what");
        SumRewriter x = furnished();
        for (int what : new int[] {9, 10, 31, 32, MAX, -1, MIN}) {
            Check.due("count " + what, x.count(what), -1);
        }
        x.turn(1, false);
        x.show(2);
        int[] want = {7, 3, 5, 3, 1, 15, 1 + 2 + 8 + 16, 6, 0};
        for (int what = 0; what <= 8; what++) {
            Check.due("count " + what, x.count(what), want[what]);
        }
        x.turn(2, true);
        Check.due("normal ones", x.count(6), 2 + 8);
        Check.due("matches, of a with a alone", x.count(8), 1);
        x.turn(1, true);
        Check.due("matches of x and y, too", x.count(8), 1 + 4 + 4 + 2 + 2 + 2);
        x.turn(0, false);
        x.turn(1, false);
        x.turn(2, false);
        Check.due("all are normal with none on", x.count(6), 31);
        Check.due("no matches with none on", x.count(8), 0);
        SumRewriter full = Make.thirty();
        Check.due("the greatest size", full.count(7), 20);
        Check.due("30 normal ones", full.count(6), (1 << 30) - 1);
        Make.rules(full, "s(x)=x");
        Check.due("two normal ones", full.count(6), 1 + (1 << 20));
        Check.due("28 matches", full.count(8), 28);
        Check.due("no term", Make.with(Make.BASE).count(7), 0);
        SumRewriter eight = Make.rules(furnished(), "a=b", "a=b", "a=b", "a=b", "a=b");
        Check.due("8 rules", eight.count(3), 8);
        Check.due("on", eight.count(4), 255 - 4);
        SumRewriter most = Make.with("free a 0;free b 0;free d 0;free f 0;free h 0;free i 0;free j 0;free k 0;free l 0;free m 0;"
                + "var n;var o;var p;var q;var r;");
        Check.due("10 operators", most.count(0), 10);
        Check.due("5 variables", most.count(1), 5);
    }

    private static void countOfMuch() {
        Check.sentence("Promise 30: 6 .. (NONE: TOO MUCH) .. 8 .. (NONE: TOO MUCH)");
        SumRewriter x = few();
        Check.due("normal ones", x.count(6), -1);
        Check.due("matches", x.count(8), -1);
        x.turn(2, false);
        Check.due("normal ones then", x.count(6), 2);
        Check.due("matches then", x.count(8), 0);
        SumRewriter z = Make.rules(tooMany(), "plus(x,y,z)=a");
        Check.due("one of them is too much", z.count(8), -1);
        SumRewriter many = Make.with(Make.BASE, "plus(a,b,s(a),s(b),s(s(a)))", "plus(a,b,s(a),s(b),s(s(b)))");
        Make.rules(many, "plus(x,y,z)=a", "plus(x,y,z)=b");
        Check.due("243 each are not too much together", many.count(8), 4 * 243);
        Check.due("what is shown", many.count(5), 0);
    }
}
