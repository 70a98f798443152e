/** Objects made ready for a test, and long texts. */
final class Make {
    static final String BASE =
            "free a 0; free b 0; free e 0; free s 1; c m; ac plus unit e; ac un; var x; var y; var z;";

    private Make() {
    }

    static SumRewriter with(String signature, String... terms) {
        SumRewriter x = new SumRewriter();
        mustBeNumber("signature " + signature, Check.signature(x, signature));
        for (String t : terms) {
            mustBeNumber("term " + t, Check.term(x, t));
        }
        return x;
    }

    static SumRewriter rules(SumRewriter x, String... rules) {
        for (String r : rules) {
            mustBeNumber("rule " + r, Check.rule(x, r));
        }
        return x;
    }

    /** All rules but those named are turned off. */
    static SumRewriter only(SumRewriter x, int... rules) {
        for (int r = 0; r < x.count(3); r++) {
            x.turn(r, false);
        }
        for (int r : rules) {
            x.turn(r, true);
        }
        return x;
    }

    private static void mustBeNumber(String what, String got) {
        if (got.startsWith("throws")) {
            Check.due(what, got, "a number");
        }
    }

    /** s(s(..s(last)..)) with n times s. */
    static String deep(int n, String last) {
        return "s(".repeat(n) + last + ")".repeat(n);
    }

    /** 30 unlike terms of BASE without variables: the term of number i is s(..a..) with i times s, from 20 on of b. */
    static SumRewriter thirty() {
        SumRewriter x = with(BASE);
        for (int i = 0; i < 30; i++) {
            mustBeNumber("term " + i, Check.term(x, i < 20 ? deep(i, "a") : deep(i - 20, "b")));
        }
        return x;
    }
}
