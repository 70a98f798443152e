import java.util.ArrayList;
import java.util.List;
import java.util.Random;
import java.util.concurrent.Callable;

/** Random runs of calls, each answer compared with the plain model's. Arguments: how many runs, the first seed. */
public final class RandomRuns {
    private static final String[] SIGNATURES = {
        "free a 0; free b 0; free e 0; free f 1; ac plus unit e; var x; var y; var z;",
        "free a 0; free b 0; free f 1; free g 2; c pair; ac plus; var x; var y;",
        "free e 0; free i 0; ac plus unit e; ac mul unit i; free a 0; free f 1; var x; var y; var z;",
        "free e 0; ac plus unit e; ac mul unit e; free a 0; free b 0; var x; var y;",
        "free e 0; ac plus unit e; ac mul; c k; free h 3; free a 0; var x; var y; var z;",
        "c k; ac u; ac w; free a 0; free b 0; free f 1; var x; var y;",
        "free a 0; free b 0; free d 0; ac u unit a; free g 2; var p; var q; var r; var s;",
        "var x; free zero 0; ac plus unit zero; ac times; free one 0; var y; free s 1; c eq;",
    };

    private final Random random;
    private final SumRewriter program = new SumRewriter();
    private final Model model = new Model();
    private final List<String> log = new ArrayList<>();
    private final int size;

    private RandomRuns(long seed) {
        random = new Random(seed);
        size = 2 + random.nextInt(7);
    }

    public static void main(String[] args) {
        int runs = args.length > 0 ? Integer.parseInt(args[0]) : 1500;
        long first = args.length > 1 ? Long.parseLong(args[1]) : 1;
        for (int i = 0; i < runs && Check.wrong() == 0; i++) {
            new RandomRuns(first + i).run();
        }
        Check.finish("RandomRuns");
    }

    private void run() {
        text(0, random.nextInt(3) == 0 ? anySignature() : SIGNATURES[random.nextInt(SIGNATURES.length)]);
        int rules = random.nextInt(6);
        for (int i = 0; i < 2 + random.nextInt(4); i++) {
            text(1, make(1 + random.nextInt(size), 3 + random.nextInt(3), 3));
        }
        for (int i = 0; i < 2 + random.nextInt(5); i++) {
            text(1, make(1 + random.nextInt(2 * size), 3, 12));
        }
        for (int i = 0; i < 3 && !model.told.isEmpty(); i++) {
            text(1, loosen(model.told.get(random.nextInt(model.told.size())), 0));
        }
        for (int i = 0; i < rules; i++) {
            String left = make(2 + random.nextInt(4), 3, 2);
            if (!model.told.isEmpty() && random.nextBoolean()) {
                List<Model.T> places = model.told.get(random.nextInt(model.told.size())).places();
                left = loosen(places.get(random.nextInt(places.size())), 0);
            }
            text(2, left + "=" + fitting(left));
        }
        for (int i = 0; i < 60 && Check.wrong() == 0; i++) {
            call();
        }
        for (int t = 0; t < model.told.size() && Check.wrong() == 0; t++) {
            allMatches(t);
            allSteps(t);
        }
        if (Check.wrong() != 0) {
            log.forEach(System.out::println);
        }
    }

    /** Up to ten operators of any kinds, the first of no parts, and up to five variables, told one among another. */
    private String anySignature() {
        List<String> constants = new ArrayList<>();
        List<String> names = new ArrayList<>(List.of("free", "c", "ac", "unit", "var"));
        StringBuilder text = new StringBuilder();
        int operators = 1 + random.nextInt(10);
        int variables = random.nextInt(6);
        while (operators + variables > 0) {
            String name = anyName(names);
            int kind = constants.isEmpty() ? 0 : random.nextInt(5);
            if (random.nextInt(operators + variables) < variables) {
                text.append("var ").append(name);
                variables--;
            } else {
                int parts = constants.isEmpty() || random.nextInt(3) == 0 ? 0 : random.nextInt(4);
                String unit = constants.isEmpty() ? "" : " unit " + constants.get(random.nextInt(constants.size()));
                text.append(kind < 2 ? "free " + name + " " + parts : kind == 2 ? "c " + name
                        : "ac " + name + (random.nextInt(3) == 0 ? "" : unit));
                if (kind < 2 && parts == 0) {
                    constants.add(name);
                }
                operators--;
            }
            text.append("; ");
        }
        return text.toString();
    }

    private String anyName(List<String> taken) {
        String name = "free";
        while (taken.contains(name)) {
            StringBuilder letters = new StringBuilder();
            for (int i = random.nextInt(random.nextInt(6) + 1); i >= 0; i--) {
                letters.append((char) ('a' + random.nextInt(26)));
            }
            name = letters.toString();
        }
        taken.add(name);
        return name;
    }

    /** The text of a term that has variables where a given one has something, or some parts of a sum. */
    private String loosen(Model.T t, int depth) {
        if (!model.variables.isEmpty() && random.nextInt(depth == 0 ? 20 : 3) == 0) {
            return model.variables.get(random.nextInt(model.variables.size()));
        }
        if (t.variable >= 0 || t.parts.isEmpty()) {
            return model.spell(t);
        }
        List<String> parts = new ArrayList<>();
        boolean sum = model.kinds.get(t.op) == 2;
        for (Model.T p : t.parts) {
            if (!sum || random.nextInt(3) > 0) {
                parts.add(loosen(p, depth + 1));
            }
        }
        while (sum && (parts.size() < 2 || parts.size() < 6 && random.nextInt(3) == 0)) {
            parts.add(make(1, 4, 2));
        }
        return model.names.get(t.op) + "(" + String.join(",", parts) + ")";
    }

    /** A term's text whose variables mostly stand in another's. */
    private String fitting(String left) {
        String right = make(1 + random.nextInt(4), 3, 2);
        for (int i = 0; i < 6; i++) {
            boolean fits = true;
            for (String v : model.variables) {
                fits &= !right.matches("(.*[^a-z])?" + v + "([^a-z].*)?") || left.matches("(.*[^a-z])?" + v + "([^a-z].*)?");
            }
            if (fits) {
                break;
            }
            right = make(1 + random.nextInt(4), 3, 2);
        }
        return right;
    }

    private void allMatches(int t) {
        for (int p = 0; p < model.told.size() && Check.wrong() == 0; p++) {
            int pattern = p;
            same("matches " + p + " " + t, () -> model.matches(pattern, t), () -> program.matches(pattern, t));
            model.budget = 400000;
            List<java.util.Map<Integer, Model.T>> all = null;
            try {
                all = model.matchList(model.told.get(p), model.told.get(t));
            } catch (Model.Weary e) {
                continue;
            }
            for (int k = 0; all != null && k < all.size(); k++) {
                for (int v : all.get(k).keySet()) {
                    int m = k;
                    String got = Check.show(program, () -> program.bound(pattern, t, m, v));
                    Check.due("bound " + p + " " + t + " " + k + " " + v, got, model.spell(all.get(k).get(v)));
                }
            }
        }
    }

    private void allSteps(int t) {
        same("steps " + t, () -> model.steps(t), () -> program.steps(t));
        model.budget = 400000;
        java.util.Set<Model.Step> all;
        try {
            all = model.stepSet(model.told.get(t), model.on, 20);
        } catch (Model.Weary e) {
            return;
        }
        int k = 0;
        for (Model.Step s : all == null ? List.<Model.Step>of() : all) {
            int m = k++;
            String got = Check.show(program, () -> program.step(t, m));
            Check.due("step " + t + " " + m, got, model.spell(s.behind()));
            Check.due("place of step " + t + " " + m, Check.answer(() -> program.stepAt(t, m, 0)), s.place());
            Check.due("rule of step " + t + " " + m, Check.answer(() -> program.stepAt(t, m, 1)), s.rule());
        }
    }

    /** A term's text with some n names in it, a variable in one of so many. */
    private String make(int n, int vars, int seldom) {
        int some = Math.min(vars, model.variables.size());
        if (!model.arities.contains(0)) {
            return "a";
        }
        if (n <= 1) {
            if (some > 0 && random.nextInt(seldom) == 0) {
                return model.variables.get(random.nextInt(some));
            }
            for (int i = 0; i < 30; i++) {
                int op = random.nextInt(model.names.size());
                if (model.arities.get(op) == 0) {
                    return model.names.get(op);
                }
            }
            return "a";
        }
        int op = random.nextInt(model.names.size());
        for (int i = 0; i < 3 && (model.arities.get(op) == 0 || model.kinds.get(op) == 0 && random.nextBoolean()); i++) {
            op = random.nextInt(model.names.size());
        }
        int parts = model.arities.get(op);
        if (model.kinds.get(op) == 2) {
            parts = 2 + random.nextInt(random.nextInt(8) == 0 ? 8 : Math.min(5, n));
        }
        if (parts == 0) {
            return model.names.get(op);
        }
        StringBuilder text = new StringBuilder(model.names.get(op)).append('(');
        for (int i = 0; i < parts; i++) {
            text.append(i > 0 ? "," : "").append(make(Math.max(1, (n - 1) / parts + random.nextInt(2)), vars, seldom));
        }
        return text.append(')').toString();
    }

    private void text(int sort, String given) {
        String text = given;
        if (random.nextInt(12) == 0) {
            text = spoil(text);
        }
        if (text.length() > 400) {
            return;
        }
        String t = text;
        log.add((sort == 0 ? "signature " : sort == 1 ? "term " : "rule ") + t);
        Check.text(program, t);
        String want = Check.answer(() -> sort == 0 ? model.signature(t) : sort == 1 ? model.term(t) : model.rule(t));
        String got = Check.answer(() -> sort == 0 ? program.signature() : sort == 1 ? program.term() : program.rule());
        Check.due(t, got, want);
        Check.due("fault of " + t, program.fault(), model.fault);
        if (sort == 0 && want.startsWith("throws")) {
            text(0, SIGNATURES[random.nextInt(SIGNATURES.length)]);
        }
    }

    private String spoil(String text) {
        StringBuilder spoilt = new StringBuilder(text);
        String signs = " \n\t(),;=abcxyz0123459A\u00e9";
        for (int i = 0; i < 1 + random.nextInt(2); i++) {
            int at = random.nextInt(spoilt.length() + 1);
            char sign = signs.charAt(random.nextInt(signs.length()));
            int way = random.nextInt(4);
            if (way == 0) {
                spoilt.insert(at, sign);
            } else if (way == 1 && at < spoilt.length()) {
                spoilt.setCharAt(at, sign);
            } else if (way == 2 && at < spoilt.length()) {
                spoilt.deleteCharAt(at);
            } else {
                spoilt.setLength(at);
            }
        }
        return spoilt.toString();
    }

    private int anyTerm() {
        return random.nextInt(25) == 0 ? random.nextInt(40) - 5 : random.nextInt(Math.max(1, model.told.size()));
    }

    private int anyRule() {
        return random.nextInt(15) == 0 ? random.nextInt(14) - 3 : random.nextInt(Math.max(1, model.rules.size()));
    }

    private int anyVariable() {
        return random.nextInt(15) == 0 ? random.nextInt(9) - 2 : random.nextInt(Math.max(1, model.variables.size()));
    }

    private int anyOperator() {
        return random.nextInt(15) == 0 ? random.nextInt(14) - 2 : random.nextInt(Math.max(1, model.names.size()));
    }

    private int few() {
        return random.nextInt(10) == 0 ? random.nextInt(60) - 5 : random.nextInt(4);
    }

    private void same(String name, Callable<Object> theirs, Callable<Object> ours) {
        log.add(name);
        model.budget = 400000;
        String want = Check.answer(theirs);
        String got = Check.answer(ours);
        if (!want.equals("throws.Weary")) {
            Check.due(name, got, want);
        } else {
            // The program may have shown what the model did not: both show the same again.
            model.budget = Long.MAX_VALUE;
            level();
        }
    }

    private void sameShown(String name, Callable<Object> theirs, Callable<Object> ours) {
        log.add(name);
        model.budget = 400000;
        String want = Check.answer(theirs);
        String got = Check.show(program, ours);
        if (!want.equals("throws.Weary")) {
            Check.due(name, got, want);
        } else {
            level();
        }
    }

    private void level() {
        if (!model.told.isEmpty()) {
            model.show(0);
            program.show(0);
        }
    }

    private void call() {
        int t = anyTerm();
        int u = anyTerm();
        int r = anyRule();
        int v = anyVariable();
        int o = anyOperator();
        int k = few();
        int n = random.nextInt(20) == 0 ? random.nextInt(9) - 2 : random.nextInt(4);
        boolean yes = random.nextBoolean();
        int what = random.nextInt(20) - (random.nextInt(5) == 0 ? 5 : 0);
        String all = "(t" + t + " u" + u + " r" + r + " v" + v + " o" + o + " k" + k + " n" + n + " " + yes + " w" + what + ")";
        switch (random.nextInt(27)) {
            case 0 -> same("turn" + all, () -> model.turn(r, yes), () -> program.turn(r, yes));
            case 1 -> same("operator" + all, () -> model.operator(o, what % 5), () -> program.operator(o, what % 5));
            case 2, 3 -> same("about" + all, () -> model.about(t, what % 10), () -> program.about(t, what % 10));
            case 4 -> same("order" + all, () -> model.order(t, u), () -> program.order(t, u));
            case 5 -> same("rank" + all, () -> model.rank(k), () -> program.rank(k));
            case 6 -> sameShown("show" + all, () -> model.show(t), () -> program.show(t));
            case 7 -> sameShown("place" + all, () -> model.place(t, k), () -> program.place(t, k));
            case 8 -> sameShown("side" + all, () -> model.side(r, yes), () -> program.side(r, yes));
            case 9, 10 -> same("matches" + all, () -> model.matches(t, u), () -> program.matches(t, u));
            case 11, 12 -> sameShown("bound" + all, () -> model.bound(t, u, k, v), () -> program.bound(t, u, k, v));
            case 13 -> sameShown("fill" + all, () -> model.fill(t, v, u), () -> program.fill(t, v, u));
            case 14 -> sameShown("join" + all, () -> model.join(o, t, u), () -> program.join(o, t, u));
            case 15 -> same("steps" + all, () -> model.steps(t), () -> program.steps(t));
            case 16 -> sameShown("step" + all, () -> model.step(t, k), () -> program.step(t, k));
            case 17 -> same("stepAt" + all, () -> model.stepAt(t, k, what % 3), () -> program.stepAt(t, k, what % 3));
            case 18 -> same("atTop" + all, () -> model.atTop(t, r), () -> program.atTop(t, r));
            case 19 -> same("walk" + all, () -> model.walk(t), () -> program.walk(t));
            case 20 -> same("reach" + all, () -> model.reach(t, n, yes), () -> program.reach(t, n, yes));
            case 21 -> sameShown("reached" + all, () -> model.reached(t, n, yes, k), () -> program.reached(t, n, yes, k));
            case 22 -> same("meet" + all, () -> model.meet(t, u, n), () -> program.meet(t, u, n));
            case 23 -> same("keep" + all, () -> model.keep(), () -> program.keep());
            case 24, 25 -> same("count" + all, () -> model.count(what % 10), () -> program.count(what % 10));
            default -> Check.due("shown" + all, Check.shown(program), model.shown == null ? "" : model.spell(model.shown));
        }
    }
}
