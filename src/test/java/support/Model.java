import java.util.ArrayList;
import java.util.Arrays;
import java.util.Collections;
import java.util.HashMap;
import java.util.LinkedHashMap;
import java.util.List;
import java.util.Map;
import java.util.NoSuchElementException;
import java.util.TreeMap;
import java.util.TreeSet;

/**
 * The document once more, in the plainest way and without regard to time: matches are found by trying all
 * that could be put in. Random runs compare the program with it.
 */
final class Model {
    /** A term as it stands. */
    static final class T implements Comparable<T> {
        final int variable;
        final int op;
        final List<T> parts;

        T(int variable, int op, List<T> parts) {
            this.variable = variable;
            this.op = op;
            this.parts = parts;
        }

        @Override
        public int compareTo(T o) {
            if (variable >= 0 || o.variable >= 0) {
                if (variable >= 0 && o.variable >= 0) {
                    return Integer.compare(variable, o.variable);
                }
                return variable >= 0 ? -1 : 1;
            }
            if (op != o.op) {
                return Integer.compare(op, o.op);
            }
            if (parts.size() != o.parts.size()) {
                return Integer.compare(parts.size(), o.parts.size());
            }
            for (int i = 0; i < parts.size(); i++) {
                int c = parts.get(i).compareTo(o.parts.get(i));
                if (c != 0) {
                    return c;
                }
            }
            return 0;
        }

        boolean same(T o) {
            return compareTo(o) == 0;
        }

        int size() {
            int n = 1;
            for (T p : parts) {
                n += p.size();
            }
            return n;
        }

        int depth() {
            int d = 0;
            for (T p : parts) {
                d = Math.max(d, p.depth() + 1);
            }
            return d;
        }

        void places(List<T> into) {
            into.add(this);
            for (T p : parts) {
                p.places(into);
            }
        }

        List<T> places() {
            List<T> all = new ArrayList<>();
            places(all);
            return all;
        }
    }

    record Rule(T left, T right) {
    }

    record Step(int place, int rule, T behind) implements Comparable<Step> {
        @Override
        public int compareTo(Step o) {
            if (place != o.place) {
                return Integer.compare(place, o.place);
            }
            return rule != o.rule ? Integer.compare(rule, o.rule) : behind.compareTo(o.behind);
        }
    }

    static final class Fault extends Exception {
        private static final long serialVersionUID = 1;
        final int at;

        Fault(int at) {
            this.at = at;
        }
    }

    List<String> names = new ArrayList<>();
    List<Integer> kinds = new ArrayList<>();
    List<Integer> arities = new ArrayList<>();
    List<Integer> units = new ArrayList<>();
    List<String> variables = new ArrayList<>();
    List<T> told = new ArrayList<>();
    List<Rule> rules = new ArrayList<>();
    int on = 0;
    int fault = -1;
    T shown = null;
    /** Beyond this many tries a match is not asked of the model. */
    long budget = Long.MAX_VALUE;

    static final class Weary extends RuntimeException {
        private static final long serialVersionUID = 1;
    }

    // ---- texts ----

    private List<int[]> spans = new ArrayList<>();
    private String text = "";
    private int at = 0;

    private void cut(String s) {
        text = s;
        at = 0;
        spans = new ArrayList<>();
        int i = 0;
        while (i < s.length()) {
            char c = s.charAt(i);
            int j = i + 1;
            if (c == ' ' || c == '\t' || c == '\n') {
                i++;
                continue;
            }
            if (c >= 'a' && c <= 'z') {
                while (j < s.length() && s.charAt(j) >= 'a' && s.charAt(j) <= 'z') {
                    j++;
                }
            } else if (c >= '0' && c <= '9') {
                while (j < s.length() && s.charAt(j) >= '0' && s.charAt(j) <= '9') {
                    j++;
                }
            }
            spans.add(new int[] {i, j});
            i = j;
        }
    }

    private String look() {
        return at < spans.size() ? text.substring(spans.get(at)[0], spans.get(at)[1]) : "";
    }

    private Fault wrongHere() {
        return new Fault(at < spans.size() ? spans.get(at)[0] : text.length());
    }

    private void need(String sign) throws Fault {
        if (!look().equals(sign)) {
            throw wrongHere();
        }
        at++;
    }

    int signature(String s) {
        Model m = new Model();
        m.cut(s);
        try {
            while (!m.look().isEmpty()) {
                m.clause();
                m.need(";");
            }
        } catch (Fault f) {
            fault = f.at;
            throw new IllegalArgumentException();
        }
        names = m.names;
        kinds = m.kinds;
        arities = m.arities;
        units = m.units;
        variables = m.variables;
        told = new ArrayList<>();
        rules = new ArrayList<>();
        on = 0;
        fault = -1;
        shown = null;
        return names.size();
    }

    private void clause() throws Fault {
        String word = look();
        boolean isVar = word.equals("var");
        if (!isVar && !word.equals("free") && !word.equals("c") && !word.equals("ac")) {
            throw wrongHere();
        }
        if (isVar ? variables.size() == 5 : names.size() == 10) {
            throw wrongHere();
        }
        at++;
        String name = look();
        if (!name.matches("[a-z]{1,6}") || names.contains(name) || variables.contains(name)
                || List.of("free", "c", "ac", "unit", "var").contains(name)) {
            throw wrongHere();
        }
        at++;
        if (isVar) {
            variables.add(name);
            return;
        }
        int kind = word.equals("free") ? 0 : word.equals("c") ? 1 : 2;
        int arity = 2;
        int unit = -1;
        if (kind == 0) {
            if (!look().matches("[0-3]")) {
                throw wrongHere();
            }
            arity = Integer.parseInt(look());
            at++;
        }
        if (kind == 2 && look().equals("unit")) {
            at++;
            unit = names.indexOf(look());
            if (unit < 0 || kinds.get(unit) != 0 || arities.get(unit) != 0) {
                throw wrongHere();
            }
            at++;
        }
        names.add(name);
        kinds.add(kind);
        arities.add(arity);
        units.add(unit);
    }

    private T parse() throws Fault {
        String name = look();
        int v = variables.indexOf(name);
        int op = names.indexOf(name);
        if (name.isEmpty() || v < 0 && op < 0) {
            throw wrongHere();
        }
        at++;
        if (v >= 0) {
            return new T(v, -1, List.of());
        }
        List<T> parts = new ArrayList<>();
        if (arities.get(op) > 0) {
            need("(");
            parts.add(parse());
            int least = arities.get(op);
            int most = kinds.get(op) == 2 ? 9 : least;
            while (parts.size() < least || parts.size() < most && look().equals(",")) {
                need(",");
                parts.add(parse());
            }
            need(")");
        }
        return stand(op, parts);
    }

    int term(String s) {
        cut(s);
        T t;
        try {
            t = parse();
            if (!look().isEmpty()) {
                throw wrongHere();
            }
        } catch (Fault f) {
            fault = f.at;
            throw new IllegalArgumentException();
        }
        fault = -1;
        if (tooGreat(t)) {
            throw new IllegalStateException();
        }
        return tell(t);
    }

    int rule(String s) {
        cut(s);
        T left;
        T right;
        try {
            left = parse();
            need("=");
            right = parse();
            if (!look().isEmpty()) {
                throw wrongHere();
            }
        } catch (Fault f) {
            fault = f.at;
            throw new IllegalArgumentException();
        }
        fault = -1;
        if (tooGreat(left) || tooGreat(right) || left.variable >= 0 || (vars(right) & ~vars(left)) != 0
                || rules.size() == 8) {
            throw new IllegalStateException();
        }
        rules.add(new Rule(left, right));
        on |= 1 << rules.size() - 1;
        return rules.size() - 1;
    }

    private int tell(T t) {
        for (int i = 0; i < told.size(); i++) {
            if (told.get(i).same(t)) {
                return i;
            }
        }
        if (told.size() == 30) {
            throw new IllegalStateException();
        }
        told.add(t);
        return told.size() - 1;
    }

    // ---- how a term stands ----

    T stand(int op, List<T> given) {
        if (kinds.get(op) == 0) {
            return new T(-1, op, List.copyOf(given));
        }
        List<T> parts = new ArrayList<>();
        if (kinds.get(op) == 1) {
            parts.addAll(given);
        } else {
            for (T p : given) {
                if (p.op == op) {
                    parts.addAll(p.parts);
                } else if (units.get(op) < 0 || p.op != units.get(op)) {
                    parts.add(p);
                }
            }
            if (parts.size() == 1) {
                return parts.get(0);
            }
            if (parts.isEmpty()) {
                return new T(-1, units.get(op), List.of());
            }
        }
        Collections.sort(parts);
        return new T(-1, op, parts);
    }

    boolean tooGreat(T t) {
        if (t.size() > 20) {
            return true;
        }
        for (T p : t.places()) {
            if (p.op >= 0 && kinds.get(p.op) == 2 && p.parts.size() > 6) {
                return true;
            }
        }
        return false;
    }

    T put(T t, Map<Integer, T> by) {
        if (t.variable >= 0) {
            return by.getOrDefault(t.variable, t);
        }
        List<T> parts = new ArrayList<>();
        for (T p : t.parts) {
            parts.add(put(p, by));
        }
        return stand(t.op, parts);
    }

    int vars(T t) {
        int bits = 0;
        for (T p : t.places()) {
            bits |= p.variable >= 0 ? 1 << p.variable : 0;
        }
        return bits;
    }

    int ops(T t) {
        int bits = 0;
        for (T p : t.places()) {
            bits |= p.op >= 0 ? 1 << p.op : 0;
        }
        return bits;
    }

    String spell(T t) {
        if (t.variable >= 0) {
            return variables.get(t.variable);
        }
        if (t.parts.isEmpty()) {
            return names.get(t.op);
        }
        List<String> inner = new ArrayList<>();
        for (T p : t.parts) {
            inner.add(spell(p));
        }
        return names.get(t.op) + "(" + String.join(",", inner) + ")";
    }

    // ---- matches ----

    /** All that a variable could have: what stands in the term, sums of some parts of a sum in it, units. */
    private List<T> candidates(T target) {
        TreeSet<T> all = new TreeSet<>(target.places());
        for (T p : target.places()) {
            if (p.op >= 0 && kinds.get(p.op) == 2) {
                for (int bits = 1; bits < 1 << p.parts.size(); bits++) {
                    all.add(stand(p.op, chosen(p.parts, bits)));
                }
            }
        }
        for (int unit : units) {
            if (unit >= 0) {
                all.add(new T(-1, unit, List.of()));
            }
        }
        return new ArrayList<>(all);
    }

    private static List<T> chosen(List<T> parts, int bits) {
        List<T> some = new ArrayList<>();
        for (int i = 0; i < parts.size(); i++) {
            if ((bits >> i & 1) != 0) {
                some.add(parts.get(i));
            }
        }
        return some;
    }

    /** In ORDER of the variables; null if there are more than 300. */
    List<Map<Integer, T>> matchList(T pattern, T target) {
        List<Integer> vs = new ArrayList<>();
        for (int v = 0; v < 5; v++) {
            if ((vars(pattern) >> v & 1) != 0) {
                vs.add(v);
            }
        }
        List<T> candidates = candidates(target);
        List<int[]> weights = new ArrayList<>();
        for (T c : candidates) {
            weights.add(lasting(c));
        }
        int[] room = lasting(target);
        int[] own = lasting(pattern);
        for (int i = 5; i < own.length; i++) {
            room[i] -= own[i];
            if (room[i] < 0) {
                return new ArrayList<>();
            }
        }
        List<Map<Integer, T>> found = new ArrayList<>();
        boolean few = search(pattern, target, vs, candidates, weights, room, new LinkedHashMap<>(), found);
        return few ? found : null;
    }

    private boolean search(T pattern, T target, List<Integer> vs, List<T> candidates, List<int[]> weights,
            int[] room, Map<Integer, T> now, List<Map<Integer, T>> found) {
        if (--budget < 0) {
            throw new Weary();
        }
        if (now.size() == vs.size()) {
            if (put(pattern, now).same(target)) {
                if (found.size() == 300) {
                    return false;
                }
                found.add(new HashMap<>(now));
            }
            return true;
        }
        int v = vs.get(now.size());
        int times = lasting(pattern)[v];
        for (int c = 0; c < candidates.size(); c++) {
            int[] left = room.clone();
            boolean fits = true;
            for (int i = 0; i < left.length; i++) {
                left[i] -= times * weights.get(c)[i];
                fits &= left[i] >= 0;
            }
            now.put(v, candidates.get(c));
            if (fits && !search(pattern, target, vs, candidates, weights, left, now, found)) {
                return false;
            }
            now.remove(v);
        }
        return true;
    }

    /** How often variables, and operators that are neither ac nor units, stand in a term: none of these goes lost. */
    private int[] lasting(T t) {
        int[] n = new int[15];
        for (T p : t.places()) {
            if (p.variable >= 0) {
                n[p.variable]++;
            } else if (kinds.get(p.op) != 2 && !units.contains(p.op)) {
                n[5 + p.op]++;
            }
        }
        return n;
    }

    // ---- steps ----

    private T replace(T t, int[] countdown, T by) {
        if (countdown[0]-- == 0) {
            return by;
        }
        if (countdown[0] < 0) {
            return t;
        }
        if (t.variable >= 0) {
            return t;
        }
        List<T> parts = new ArrayList<>();
        for (T p : t.parts) {
            parts.add(replace(p, countdown, by));
        }
        return stand(t.op, parts);
    }

    /** Null if it is too much. */
    TreeSet<Step> stepSet(T t, int rulesUsed, int mostPlaces) {
        TreeSet<Step> all = new TreeSet<>();
        List<T> places = t.places();
        for (int k = 0; k < places.size() && k < mostPlaces; k++) {
            T here = places.get(k);
            for (int r = 0; r < rules.size(); r++) {
                if ((rulesUsed >> r & 1) == 0) {
                    continue;
                }
                if (!stepsAt(t, k, here, r, all)) {
                    return null;
                }
            }
        }
        return all.size() > 200 ? null : all;
    }

    private boolean stepsAt(T t, int k, T here, int r, TreeSet<Step> all) {
        T left = rules.get(r).left();
        T right = rules.get(r).right();
        List<Map<Integer, T>> direct = matchList(left, here);
        if (direct == null) {
            return false;
        }
        for (Map<Integer, T> m : direct) {
            addStep(t, k, r, put(right, m), all);
        }
        if (kinds.get(left.op) != 2 || here.op != left.op) {
            return true;
        }
        int n = here.parts.size();
        for (int bits = 0; bits < (1 << n) - 1; bits++) {
            if (bits == 0 && units.get(left.op) < 0) {
                continue;
            }
            List<Map<Integer, T>> some = matchList(left, stand(left.op, chosen(here.parts, bits)));
            if (some == null) {
                return false;
            }
            for (Map<Integer, T> m : some) {
                List<T> together = chosen(here.parts, ~bits);
                together.add(put(right, m));
                addStep(t, k, r, stand(left.op, together), all);
            }
        }
        return true;
    }

    private void addStep(T t, int k, int r, T by, TreeSet<Step> all) {
        T behind = replace(t, new int[] {k}, by);
        if (!tooGreat(behind) && !behind.same(t)) {
            all.add(new Step(k, r, behind));
        }
    }

    private TreeSet<Step> stepsOf(T t) {
        TreeSet<Step> all = stepSet(t, on, 20);
        if (all == null) {
            throw new IllegalStateException();
        }
        return all;
    }

    private TreeMap<T, Boolean> reachedBy(T t, int n, boolean normal) {
        TreeMap<T, Boolean> all = new TreeMap<>();
        List<T> latest = new ArrayList<>(List.of(t));
        all.put(t, false);
        for (int i = 0; i < n || i == n && normal; i++) {
            List<T> next = new ArrayList<>();
            for (T u : latest) {
                TreeSet<Step> some = stepsOf(u);
                all.put(u, some.isEmpty());
                for (Step s : some) {
                    if (i < n && !all.containsKey(s.behind())) {
                        all.put(s.behind(), false);
                        next.add(s.behind());
                    }
                }
                if (all.size() > 50) {
                    throw new IllegalStateException();
                }
            }
            latest = next;
        }
        return all;
    }

    // ---- the face ----

    private T get(int i) {
        if (i < 0 || i >= told.size()) {
            throw new IndexOutOfBoundsException();
        }
        return told.get(i);
    }

    private void checkRule(int r) {
        if (r < 0 || r >= rules.size()) {
            throw new IndexOutOfBoundsException();
        }
    }

    private String show(T t) {
        shown = t;
        return spell(t);
    }

    boolean turn(int r, boolean to) {
        checkRule(r);
        int before = on;
        on = to ? on | 1 << r : on & ~(1 << r);
        return before != on;
    }

    int operator(int op, int what) {
        if (op < 0 || op >= names.size()) {
            throw new IndexOutOfBoundsException();
        }
        switch (what) {
            case 0:
                return kinds.get(op);
            case 1:
                return arities.get(op);
            case 2:
                return units.get(op);
            case 3:
                int bits = 0;
                for (int i = 0; i < told.size(); i++) {
                    bits |= (ops(told.get(i)) >> op & 1) << i;
                }
                return bits;
            default:
                throw new NoSuchElementException();
        }
    }

    int about(int i, int what) {
        T t = get(i);
        switch (what) {
            case 0:
                return t.op;
            case 1:
                return t.variable;
            case 2:
                return t.parts.size();
            case 3:
                return t.size();
            case 4:
                return t.depth();
            case 5:
                return vars(t);
            case 6:
                return ops(t);
            case 7:
                int bits = 0;
                for (int r = 0; r < rules.size(); r++) {
                    bits |= (on >> r & 1) != 0 && couldFit(rules.get(r).left(), t) ? 1 << r : 0;
                }
                return bits;
            case 8:
                return (int) t.places().stream().filter(p -> p.variable >= 0).count();
            default:
                throw new NoSuchElementException();
        }
    }

    private boolean couldFit(T left, T t) {
        if (kinds.get(left.op) != 2) {
            return t.op == left.op;
        }
        if (units.get(left.op) >= 0) {
            return true;
        }
        if (t.op != left.op) {
            return false;
        }
        for (int op = 0; op < names.size(); op++) {
            int o = op;
            if (kinds.get(op) != 2 && t.parts.stream().filter(p -> p.op == o).count()
                    < left.parts.stream().filter(p -> p.op == o).count()) {
                return false;
            }
        }
        return true;
    }

    int order(int a, int b) {
        T t = get(a);
        return t.compareTo(get(b));
    }

    int rank(int k) {
        List<T> sorted = new ArrayList<>(told);
        Collections.sort(sorted);
        return k < 0 || k >= sorted.size() ? -1 : told.indexOf(sorted.get(k));
    }

    String show(int i) {
        return show(get(i));
    }

    String place(int i, int k) {
        List<T> places = get(i).places();
        if (k < 0 || k >= places.size()) {
            throw new NoSuchElementException();
        }
        return show(places.get(k));
    }

    String side(int r, boolean right) {
        checkRule(r);
        return show(right ? rules.get(r).right() : rules.get(r).left());
    }

    private List<Map<Integer, T>> matchTold(int p, int t) {
        List<Map<Integer, T>> all = matchList(get(p), get(t));
        if (all == null) {
            throw new IllegalStateException();
        }
        return all;
    }

    int matches(int p, int t) {
        get(p);
        get(t);
        return matchTold(p, t).size();
    }

    private void checkVariable(int v) {
        if (v < 0 || v >= variables.size()) {
            throw new IndexOutOfBoundsException();
        }
    }

    String bound(int p, int t, int k, int v) {
        get(p);
        get(t);
        checkVariable(v);
        List<Map<Integer, T>> all = matchTold(p, t);
        if (k < 0 || k >= all.size() || !all.get(k).containsKey(v)) {
            throw new NoSuchElementException();
        }
        return show(all.get(k).get(v));
    }

    String fill(int t, int v, int by) {
        get(t);
        get(by);
        checkVariable(v);
        T filled = put(get(t), Map.of(v, get(by)));
        if (tooGreat(filled)) {
            throw new IllegalStateException();
        }
        return show(filled);
    }

    String join(int op, int a, int b) {
        if (op < 0 || op >= names.size()) {
            throw new IndexOutOfBoundsException();
        }
        List<T> both = Arrays.asList(get(a), get(b));
        if (kinds.get(op) != 2) {
            throw new IllegalArgumentException();
        }
        T t = stand(op, both);
        if (tooGreat(t)) {
            throw new IllegalStateException();
        }
        return show(t);
    }

    int steps(int t) {
        return stepsOf(get(t)).size();
    }

    private Step stepOf(int t, int k) {
        List<Step> all = new ArrayList<>(stepsOf(get(t)));
        if (k < 0 || k >= all.size()) {
            throw new NoSuchElementException();
        }
        return all.get(k);
    }

    String step(int t, int k) {
        return show(stepOf(t, k).behind());
    }

    int stepAt(int t, int k, int what) {
        Step s = stepOf(t, k);
        if (what != 0 && what != 1) {
            throw new NoSuchElementException();
        }
        return what == 0 ? s.place() : s.rule();
    }

    int atTop(int t, int r) {
        T u = get(t);
        checkRule(r);
        TreeSet<Step> all = stepSet(u, 1 << r, 1);
        if (all == null) {
            throw new IllegalStateException();
        }
        return all.size();
    }

    int walk(int t) {
        T now = get(t);
        int n = 0;
        while (n < 40) {
            TreeSet<Step> all = stepsOf(now);
            if (all.isEmpty()) {
                break;
            }
            now = all.first().behind();
            n++;
        }
        shown = now;
        return n;
    }

    private List<T> reachedList(int t, int n, boolean normal) {
        T u = get(t);
        if (n < 0 || n > 4) {
            throw new IllegalArgumentException();
        }
        List<T> all = new ArrayList<>();
        for (Map.Entry<T, Boolean> e : reachedBy(u, n, normal).entrySet()) {
            if (!normal || e.getValue()) {
                all.add(e.getKey());
            }
        }
        return all;
    }

    int reach(int t, int n, boolean normal) {
        return reachedList(t, n, normal).size();
    }

    String reached(int t, int n, boolean normal, int k) {
        List<T> all = reachedList(t, n, normal);
        if (k < 0 || k >= all.size()) {
            throw new NoSuchElementException();
        }
        return show(all.get(k));
    }

    int meet(int a, int b, int n) {
        T t = get(a);
        T u = get(b);
        if (n < 0 || n > 4) {
            throw new IllegalArgumentException();
        }
        for (int k = 0; k <= n; k++) {
            TreeSet<T> both = new TreeSet<>(reachedBy(t, k, false).keySet());
            both.retainAll(reachedBy(u, k, false).keySet());
            if (!both.isEmpty()) {
                return k;
            }
        }
        return -1;
    }

    int keep() {
        if (shown == null) {
            throw new IllegalStateException();
        }
        return tell(shown);
    }

    int count(int what) {
        switch (what) {
            case 0:
                return names.size();
            case 1:
                return variables.size();
            case 2:
                return told.size();
            case 3:
                return rules.size();
            case 4:
                return on;
            case 5:
                return shown == null ? 0 : spell(shown).length();
            case 6:
                int bits = 0;
                for (int i = 0; i < told.size(); i++) {
                    TreeSet<Step> all = stepSet(told.get(i), on, 20);
                    if (all == null) {
                        return -1;
                    }
                    bits |= all.isEmpty() ? 1 << i : 0;
                }
                return bits;
            case 7:
                return told.stream().mapToInt(T::size).max().orElse(0);
            case 8:
                return matchesOfAll();
            default:
                return -1;
        }
    }

    private int matchesOfAll() {
        int n = 0;
        for (int r = 0; r < rules.size(); r++) {
            for (T t : told) {
                if ((on >> r & 1) != 0) {
                    List<Map<Integer, T>> all = matchList(rules.get(r).left(), t);
                    if (all == null) {
                        return -1;
                    }
                    n += all.size();
                }
            }
        }
        return n;
    }
}
