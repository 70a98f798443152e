/** What README.md tells of its example. */
public final class Readme {
    public static void main(String[] args) {
        SumRewriter x = new SumRewriter();
        Check.due("signature()", Check.signature(x, "free e 0; free a 0; ac plus unit e; var x; var y;"), 3);
        Check.due("term()", Check.term(x, "plus(a, plus(e, a))"), 0);
        Check.due("rule()", Check.rule(x, "plus(x, x) = x"), 0);
        Check.due("show(0)", Check.show(x, () -> x.show(0)), "plus(a,a)");
        Check.ask("walk(0)", () -> x.walk(0), 1);
        Check.due("what is shown behind walk(0)", Check.shown(x), "a");
        Check.finish("Readme");
    }
}
