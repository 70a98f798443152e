/**
 * Calls at the edges of what the document allows. A refused one is asked of one of two objects made alike;
 * behind it both must tell the same of themselves.
 */
final class Edge {
    static final String INDEX = "throws.IndexOutOfBoundsException";
    static final String ARGUMENT = "throws.IllegalArgumentException";
    static final String STATE = "throws.IllegalStateException";
    static final String NO_SUCH = "throws.NoSuchElementException";

    interface Setup {
        SumRewriter make();
    }

    interface Call {
        Object on(SumRewriter x);
    }

    interface Numbered {
        Object on(SumRewriter x, int number);
    }

    private Edge() {
    }

    static void answers(String what, SumRewriter x, Call call, Object want) {
        Check.ask(what, () -> call.on(x), want);
    }

    static void shows(String what, SumRewriter x, Call call, String want) {
        Check.due(what, Check.show(x, () -> call.on(x)), want);
    }

    /** A text that is right: the answer, no fault, and the tape is used up. */
    static void taken(SumRewriter x, String sort, String text, int want) {
        x.end(0);
        Check.text(x, text);
        Check.ask(sort + " " + text, () -> read(x, sort), want);
        Check.ask("fault of " + text, () -> x.fault(), -1);
        Check.ask("the tape behind " + text, () -> x.end(1), false);
    }

    /** A text that is refused: nothing changes but that the tape is used up and its fault is told. */
    static void refusedText(Setup setup, String sort, String text, String want, int fault) {
        SumRewriter x = disturbed(setup);
        x.end(0);
        Check.text(x, text);
        Check.ask(sort + " " + text, () -> read(x, sort), want);
        Check.ask("fault of " + text, () -> x.fault(), fault);
        SumRewriter twin = disturbed(setup);
        twin.end(0);
        Check.due("behind " + sort + " " + text, state(x), state(twin));
    }

    static void wrongText(Setup setup, String sort, String text, int fault) {
        refusedText(setup, sort, text, ARGUMENT, fault);
    }

    static void refused(String what, Setup setup, Call call, String want) {
        SumRewriter x = disturbed(setup);
        SumRewriter twin = disturbed(setup);
        Check.ask(what, () -> call.on(x), want);
        Check.due("fault behind " + what, x.fault(), twin.fault());
        Check.due("behind " + what, state(x), state(twin));
    }

    /** A call that is refused with each number outside 0 to n - 1; the edges within must not be so refused. */
    static void outside(String what, Setup setup, int n, Numbered call, String want) {
        for (int bad : new int[] {Integer.MIN_VALUE, -1, n, n + 1, Integer.MAX_VALUE}) {
            refused(what + " " + bad, setup, x -> call.on(x, bad), want);
        }
        for (int good : new int[] {0, n - 1}) {
            SumRewriter x = setup.make();
            String got = Check.answer(() -> call.on(x, good));
            Check.due(what + " " + good + " is refused so", n > 0 && got.equals(want), false);
        }
    }

    private static Object read(SumRewriter x, String sort) {
        switch (sort) {
            case "signature":
                return x.signature();
            case "term":
                return x.term();
            default:
                return x.rule();
        }
    }

    /** With a fault, something shown and something on the tape, so that it would be seen if one went lost. */
    private static SumRewriter disturbed(Setup setup) {
        SumRewriter x = setup.make();
        x.end(0);
        Check.term(x, "  (");
        if (x.count(2) > 0) {
            x.show(x.count(2) - 1);
        }
        Check.text(x, " a a ");
        return x;
    }

    /** All that an object tells of itself, but for its fault, in less than 300 calls. The object is spoilt then. */
    private static String state(SumRewriter x) {
        StringBuilder all = new StringBuilder("shown ").append(Check.shown(x));
        for (int what = 0; what <= 8; what++) {
            all.append(", count ").append(x.count(what));
        }
        for (int o = 0; o < x.count(0); o++) {
            all.append(", operator");
            for (int what = 0; what <= 3; what++) {
                all.append(' ').append(x.operator(o, what));
            }
        }
        int terms = x.count(2);
        for (int t = 0; t < terms; t++) {
            all.append(", term ").append(x.rank(t)).append(' ').append(x.about(t, 3)).append(' ').append(x.about(t, 6));
        }
        for (int r = 0; r < x.count(3); r++) {
            all.append(", rule ").append(x.side(r, false)).append(' ').append(x.octet(0)).append(' ').append(x.side(r, true));
        }
        if (terms > 0) {
            x.show(terms - 1);
            all.append(", ").append(Check.shown(x));
        }
        return all.append(", tape ").append(tape(x)).toString();
    }

    /** How many bytes the tape has, and what is thrown if they are read, and the fault. */
    private static String tape(SumRewriter x) {
        int fed = x.feed(0, 0, 0, 0, 0);
        int n = fed < 0 ? 400 : fed - 20;
        while (n > 0 && !x.end(n)) {
            n--;
        }
        x.end(n);
        return n + " " + Check.answer(() -> x.term()) + " " + x.fault();
    }
}
