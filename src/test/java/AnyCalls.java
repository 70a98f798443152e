import java.util.Random;
import java.util.Set;

/** Any calls with any arguments in any state: what is thrown is what the document names for the call, nothing else. */
public final class AnyCalls {
    private static final String INDEX = "throws.IndexOutOfBoundsException";
    private static final String ARGUMENT = "throws.IllegalArgumentException";
    private static final String STATE = "throws.IllegalStateException";
    private static final String NO_SUCH = "throws.NoSuchElementException";
    private static final int[] EDGES = {Integer.MIN_VALUE, -2, -1, 0, 1, 2, 3, 4, 5, 6, 7, 8, 9, 10, 19, 20, 21, 29, 30,
        31, 32, 33, 63, 64, 399, 400, 401, Integer.MAX_VALUE};
    private static final String[] PIECES = {"free a 0;", "free e 0;", "free f 3;", "free g 2;", "c k;", "ac p unit e;", "ac q;",
        "var x;", "var y;", "a", "e", "x", "y", "p(", "q(", "f(", "g(", "k(", ",", ",", ")", ")", "=", " ", ";", "0", "unit",
        "p(x,y)", "q(a,e,x)", "k(a,x)", "f(a,e,x)", "g(x,x)", "p(x,p(y,a))=q(x,y)", "k(x,y)=x", "\n", "\u00ff", "abcdefg"};

    private final Random random;
    private final SumRewriter x = new SumRewriter();

    private AnyCalls(long seed) {
        random = new Random(seed);
    }

    public static void main(String[] args) {
        for (int seed = 0; seed < 400; seed++) {
            new AnyCalls(seed).run();
        }
        Check.finish("AnyCalls");
    }

    private int any() {
        return random.nextInt(4) == 0 ? EDGES[random.nextInt(EDGES.length)] : random.nextInt(4);
    }

    private String text() {
        StringBuilder text = new StringBuilder();
        for (int i = random.nextInt(12); i >= 0; i--) {
            text.append(PIECES[random.nextInt(PIECES.length)]);
        }
        return text.length() > 400 ? text.substring(0, 400) : text.toString();
    }

    private void may(String name, String got, String... thrown) {
        boolean fine = got.startsWith("throws.") ? Set.of(thrown).contains(got) : got.matches("-?[0-9]+|true|false");
        Check.due(name + " may answer " + got, fine, true);
    }

    private void run() {
        if (random.nextInt(8) > 0) {
            Check.signature(x, "free a 0;free e 0;free f 3;free g 2;c k;ac p unit e;ac q;var x;var y;");
        }
        for (int i = 0; i < 300; i++) {
            call(random.nextInt(34), any(), any(), any(), any(), random.nextBoolean());
        }
    }

    private void call(int which, int a, int b, int c, int d, boolean yes) {
        switch (which) {
            case 0 -> may("feed", Check.answer(() -> x.feed(a, b, c, d, a)));
            case 1 -> may("end", Check.answer(() -> x.end(a)));
            case 2 -> {
                x.end(0);
                may("signature", random.nextInt(9) == 0 ? Check.signature(x, text()) : "0", ARGUMENT);
            }
            case 3, 4, 5 -> {
                x.end(0);
                may("term", Check.term(x, random.nextBoolean() ? text() : PIECES[27 + random.nextInt(5)]), ARGUMENT, STATE);
            }
            case 6, 7 -> {
                x.end(0);
                may("rule", Check.rule(x, random.nextBoolean() ? text() : PIECES[32 + random.nextInt(2)]), ARGUMENT, STATE);
            }
            case 8 -> may("fault", Check.answer(() -> x.fault()));
            case 9 -> may("turn", Check.answer(() -> x.turn(a, yes)), INDEX);
            case 10 -> may("operator", Check.answer(() -> x.operator(a, b)), INDEX, NO_SUCH);
            case 11 -> may("about", Check.answer(() -> x.about(a, b)), INDEX, NO_SUCH);
            case 12 -> may("order", Check.answer(() -> x.order(a, b)), INDEX);
            case 13 -> may("rank", Check.answer(() -> x.rank(a)));
            case 14 -> may("show", Check.answer(() -> x.show(a)), INDEX);
            case 15 -> may("place", Check.answer(() -> x.place(a, b)), INDEX, NO_SUCH);
            case 16 -> may("side", Check.answer(() -> x.side(a, yes)), INDEX);
            case 17 -> may("matches", Check.answer(() -> x.matches(a, b)), INDEX, STATE);
            case 18 -> may("bound", Check.answer(() -> x.bound(a, b, c, d)), INDEX, STATE, NO_SUCH);
            case 19 -> may("fill", Check.answer(() -> x.fill(a, b, c)), INDEX, STATE);
            case 20 -> may("join", Check.answer(() -> x.join(a, b, c)), INDEX, ARGUMENT, STATE);
            case 21 -> may("steps", Check.answer(() -> x.steps(a)), INDEX, STATE);
            case 22 -> may("step", Check.answer(() -> x.step(a, b)), INDEX, STATE, NO_SUCH);
            case 23 -> may("stepAt", Check.answer(() -> x.stepAt(a, b, c)), INDEX, STATE, NO_SUCH);
            case 24 -> may("atTop", Check.answer(() -> x.atTop(a, b)), INDEX, STATE);
            case 25 -> may("walk", Check.answer(() -> x.walk(a)), INDEX, STATE);
            case 26 -> may("reach", Check.answer(() -> x.reach(a, b, yes)), INDEX, ARGUMENT, STATE);
            case 27 -> may("reached", Check.answer(() -> x.reached(a, b, yes, c)), INDEX, ARGUMENT, STATE, NO_SUCH);
            case 28 -> may("meet", Check.answer(() -> x.meet(a, b, c)), INDEX, ARGUMENT, STATE);
            case 29, 30 -> may("keep", Check.answer(() -> x.keep()), STATE);
            case 31 -> may("octet", Check.answer(() -> x.octet(a)));
            default -> may("count", Check.answer(() -> x.count(a)));
        }
    }
}
