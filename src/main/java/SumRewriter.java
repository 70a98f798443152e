import java.util.NoSuchElementException;

/**
 * Terms over operators of which some do not mind order and brackets, and rules that rewrite them.
 *
 * A term that is kept is a row of codes, each operator ahead of its parts; a row compared cell by
 * cell with another gives ORDER. While a call works, terms are nodes that stand once each.
 */
public final class SumRewriter {
    public static final int NONE = -1;

    private static final int TAPE = 400;
    private static final int FED = 20;
    private static final int OPERATORS = 10;
    private static final int VARIABLES = 5;
    private static final int TERMS = 30;
    private static final int RULES = 8;
    private static final int SIZE = 20;
    private static final int PARTS = 6;
    private static final int WRITTEN_PARTS = 9;
    private static final int MATCHES = 300;
    private static final int STEPS = 200;
    private static final int WALK = 40;
    private static final int REACHED = 50;
    private static final int FARTHEST = 4;

    private static final int FREE = 0;
    private static final int PAIR = 1;
    private static final int SUM = 2;

    private static final int TOO_GREAT = -1;
    private static final int WRONG = -2;

    /** Codes below this one are variables. */
    private static final int FIRST_CODE = 8;

    private final Scanner scanner;
    private final Signature current;
    private final Signature spare;
    private final Terms terms;
    private final Reader reader;
    private final Rows told;
    private final Rows sides;
    private final Rows scratch;
    private final Shown shown;
    private final Matcher matcher;
    private final Stepper stepper;
    private final Spread here;
    private final Spread there;
    private final int[] bindings;
    private int rulesOn;
    private int faultAt;

    public SumRewriter() {
        scanner = new Scanner();
        current = new Signature();
        spare = new Signature();
        terms = new Terms(current);
        reader = new Reader(scanner, current, terms);
        told = new Rows(TERMS);
        sides = new Rows(2 * RULES);
        scratch = new Rows(1);
        shown = new Shown(current);
        matcher = new Matcher(terms);
        stepper = new Stepper(terms, matcher);
        here = new Spread(stepper);
        there = new Spread(stepper);
        bindings = new int[VARIABLES];
        rulesOn = 0;
        faultAt = NONE;
    }

    // ---- texts ----

    public int feed(int a, int b, int c, int d, int e) {
        return scanner.append(a, b, c, d, e);
    }

    public boolean end(int n) {
        return scanner.cut(n);
    }

    public int signature() throws IllegalArgumentException {
        scanner.open();
        if (!spare.read(scanner)) {
            faultAt = scanner.start;
            throw new IllegalArgumentException("the text is no signature");
        }
        faultAt = NONE;
        current.takeOver(spare);
        told.clear();
        sides.clear();
        shown.clear();
        rulesOn = 0;
        return current.operators;
    }

    public int term() throws IllegalArgumentException, IllegalStateException {
        scanner.open();
        terms.clear();
        int node = reader.read();
        checkText(node != WRONG && scanner.sort == Scanner.END);
        if (node < 0) {
            throw new IllegalStateException("the term is too great");
        }
        scratch.clear();
        terms.write(node, scratch);
        return tell(scratch);
    }

    public int rule() throws IllegalArgumentException, IllegalStateException {
        scanner.open();
        terms.clear();
        int left = reader.read();
        checkText(left != WRONG && scanner.sort == Scanner.SIGN && scanner.value == '=');
        scanner.advance();
        int right = reader.read();
        checkText(right != WRONG && scanner.sort == Scanner.END);
        if (left < 0 || right < 0 || terms.codeOf(left) < FIRST_CODE) {
            throw new IllegalStateException("a side is too great, or left is a variable");
        }
        if ((terms.maskOf(right) & ~terms.maskOf(left)) != 0 || rules() >= RULES) {
            throw new IllegalStateException("right has another variable, or there are 8 rules");
        }
        int number = rules();
        terms.write(left, sides);
        terms.write(right, sides);
        rulesOn |= 1 << number;
        return number;
    }

    public int fault() {
        return faultAt;
    }

    private void checkText(boolean right) {
        faultAt = right ? NONE : scanner.start;
        if (!right) {
            throw new IllegalArgumentException("the text is wrong");
        }
    }

    /** The number of the row's term among those told; it is told now if it was not. */
    private int tell(Rows row) {
        int number = told.indexOf(row, 0);
        if (number >= 0) {
            return number;
        }
        if (told.used >= TERMS) {
            throw new IllegalStateException("there are 30 others");
        }
        number = told.used;
        told.copy(row, 0);
        return number;
    }

    // ---- what is told ----

    public boolean turn(int rule, boolean on) throws IndexOutOfBoundsException {
        checkRule(rule);
        int bit = 1 << rule;
        boolean was = (rulesOn & bit) != 0;
        rulesOn = on ? rulesOn | bit : rulesOn & ~bit;
        return was != on;
    }

    public int operator(int operator, int what) throws IndexOutOfBoundsException, NoSuchElementException {
        checkOperator(operator);
        switch (what) {
            case 0:
                return current.kindOf(operator);
            case 1:
                return current.partsOf(operator);
            case 2:
                return current.unitOf(operator);
            case 3:
                return termsWith(operator);
            default:
                throw new NoSuchElementException("another what");
        }
    }

    private int termsWith(int operator) {
        int bits = 0;
        for (int i = 0; i < told.used; i++) {
            if ((told.operatorsIn(i) >> operator & 1) != 0) {
                bits |= 1 << i;
            }
        }
        return bits;
    }

    public int about(int term, int what) throws IndexOutOfBoundsException, NoSuchElementException {
        checkTerm(term);
        int code = told.cellAt(term, 0);
        switch (what) {
            case 0:
                return operatorIn(code);
            case 1:
                return code < FIRST_CODE ? code : NONE;
            case 2:
                return partsIn(code);
            case 3:
                return told.lengthOf(term);
            case 4:
                return told.depthOf(term);
            case 5:
                return told.variablesIn(term);
            case 6:
                return told.operatorsIn(term);
            case 7:
                return could(term);
            case 8:
                return told.timesOfVariables(term);
            default:
                throw new NoSuchElementException("another what");
        }
    }

    private int could(int term) {
        int bits = 0;
        for (int r = 0; r < rules(); r++) {
            if ((rulesOn >> r & 1) != 0 && couldFit(2 * r, term)) {
                bits |= 1 << r;
            }
        }
        return bits;
    }

    private boolean couldFit(int left, int term) {
        int own = operatorIn(sides.cellAt(left, 0));
        boolean same = operatorIn(told.cellAt(term, 0)) == own;
        if (current.kindOf(own) != SUM) {
            return same;
        }
        if (current.unitOf(own) >= 0) {
            return true;
        }
        for (int op = 0; same && op < current.operators; op++) {
            if (current.kindOf(op) != SUM && told.partsWith(term, op) < sides.partsWith(left, op)) {
                same = false;
            }
        }
        return same;
    }

    public int order(int term, int other) throws IndexOutOfBoundsException {
        checkTerm(term);
        checkTerm(other);
        return told.compare(term, told, other);
    }

    public int rank(int k) {
        return told.nth(k, -1L);
    }

    // ---- what is shown ----

    public int show(int term) throws IndexOutOfBoundsException {
        checkTerm(term);
        return shown.take(told, term);
    }

    public int place(int term, int k) throws IndexOutOfBoundsException, NoSuchElementException {
        checkTerm(term);
        if (k < 0 || k >= told.lengthOf(term)) {
            throw new NoSuchElementException("no such place");
        }
        scratch.clear();
        scratch.copyCells(told, term, k, told.spanAt(term, k));
        return shown.take(scratch, 0);
    }

    public int side(int rule, boolean right) throws IndexOutOfBoundsException {
        checkRule(rule);
        return shown.take(sides, right ? 2 * rule + 1 : 2 * rule);
    }

    public int keep() throws IllegalStateException {
        if (shown.row.used == 0) {
            throw new IllegalStateException("nothing is shown");
        }
        return tell(shown.row);
    }

    public int octet(int k) {
        return shown.byteAt(k);
    }

    private int showNode(int node) {
        scratch.clear();
        terms.write(node, scratch);
        return shown.take(scratch, 0);
    }

    // ---- matches ----

    public int matches(int pattern, int term) throws IndexOutOfBoundsException, IllegalStateException {
        checkTerm(pattern);
        checkTerm(term);
        matchTold(pattern, term);
        return matcher.used;
    }

    public int bound(int pattern, int term, int k, int variable) throws IndexOutOfBoundsException, NoSuchElementException, IllegalStateException {
        checkTerm(pattern);
        checkTerm(term);
        checkVariable(variable);
        matchTold(pattern, term);
        if (k < 0 || k >= matcher.used || (told.variablesIn(pattern) >> variable & 1) == 0) {
            throw new NoSuchElementException("no such match, or the variable is not in the pattern");
        }
        return showNode(matcher.boundTo(k, variable));
    }

    private void matchTold(int pattern, int term) {
        terms.clear();
        int left = terms.fromRow(told, pattern);
        if (!matcher.run(left, terms.fromRow(told, term))) {
            throw new IllegalStateException("too many matches");
        }
    }

    public int fill(int term, int variable, int by) throws IndexOutOfBoundsException, IllegalStateException {
        checkTerm(term);
        checkVariable(variable);
        checkTerm(by);
        terms.clear();
        for (int v = 0; v < bindings.length; v++) {
            bindings[v] = v == variable ? terms.fromRow(told, by) : NONE;
        }
        return showBuilt(terms.put(terms.fromRow(told, term), bindings, 0, 0));
    }

    public int join(int operator, int term, int other) throws IndexOutOfBoundsException, IllegalArgumentException, IllegalStateException {
        checkOperator(operator);
        checkTerm(term);
        checkTerm(other);
        if (current.kindOf(operator) != SUM) {
            throw new IllegalArgumentException("the operator is not ac");
        }
        terms.clear();
        int first = terms.fromRow(told, term);
        int second = terms.fromRow(told, other);
        terms.begin(operator);
        terms.lay(first);
        terms.lay(second);
        return showBuilt(terms.close());
    }

    private int showBuilt(int node) {
        if (node < 0) {
            throw new IllegalStateException("it is too great");
        }
        return showNode(node);
    }

    // ---- steps ----

    public int steps(int term) throws IndexOutOfBoundsException, IllegalStateException {
        checkTerm(term);
        stepper.prepare(sides, rulesOn);
        listSteps(told, term, SIZE);
        return stepper.used();
    }

    public int step(int term, int k) throws IndexOutOfBoundsException, NoSuchElementException, IllegalStateException {
        checkTerm(term);
        stepper.prepare(sides, rulesOn);
        listSteps(told, term, SIZE);
        checkStep(k);
        return shown.take(stepper.found, stepper.slotOf(k));
    }

    public int stepAt(int term, int k, int what) throws IndexOutOfBoundsException, NoSuchElementException, IllegalStateException {
        checkTerm(term);
        stepper.prepare(sides, rulesOn);
        listSteps(told, term, SIZE);
        checkStep(k);
        if (what != 0 && what != 1) {
            throw new NoSuchElementException("another what");
        }
        return what == 0 ? stepper.placeOf(k) : stepper.ruleOf(k);
    }

    public int atTop(int term, int rule) throws IndexOutOfBoundsException, IllegalStateException {
        checkTerm(term);
        checkRule(rule);
        stepper.prepare(sides, 1 << rule);
        listSteps(told, term, 1);
        return stepper.used();
    }

    public int walk(int term) throws IndexOutOfBoundsException, IllegalStateException {
        checkTerm(term);
        stepper.prepare(sides, rulesOn);
        scratch.clear();
        scratch.copy(told, term);
        int done = 0;
        while (done < WALK) {
            listSteps(scratch, 0, SIZE);
            if (stepper.used() == 0) {
                break;
            }
            scratch.clear();
            scratch.copy(stepper.found, stepper.slotOf(0));
            done++;
        }
        shown.take(scratch, 0);
        return done;
    }

    private void listSteps(Rows rows, int at, int places) {
        if (!stepper.list(rows, at, places)) {
            throw new IllegalStateException("too many steps or matches");
        }
    }

    private void checkStep(int k) {
        if (k < 0 || k >= stepper.used()) {
            throw new NoSuchElementException("no such step");
        }
    }

    // ---- what is reached ----

    public int reach(int term, int n, boolean normal) throws IndexOutOfBoundsException, IllegalArgumentException, IllegalStateException {
        checkTerm(term);
        checkDistance(n);
        stepper.prepare(sides, rulesOn);
        here.begin(told, term);
        if (!here.grow(n, normal)) {
            throw new IllegalStateException("too much is reached");
        }
        return normal ? here.howManyNormal() : here.rows.used;
    }

    public int reached(int term, int n, boolean normal, int k) throws IndexOutOfBoundsException, IllegalArgumentException, NoSuchElementException, IllegalStateException {
        checkTerm(term);
        checkDistance(n);
        stepper.prepare(sides, rulesOn);
        here.begin(told, term);
        if (!here.grow(n, normal)) {
            throw new IllegalStateException("too much is reached");
        }
        int at = here.rows.nth(k, normal ? here.normals : -1L);
        if (at < 0) {
            throw new NoSuchElementException("no such term is reached");
        }
        return shown.take(here.rows, at);
    }

    public int meet(int term, int other, int n) throws IndexOutOfBoundsException, IllegalArgumentException, IllegalStateException {
        checkTerm(term);
        checkTerm(other);
        checkDistance(n);
        stepper.prepare(sides, rulesOn);
        here.begin(told, term);
        there.begin(told, other);
        for (int k = 0; k <= n; k++) {
            if (k > 0 && !(here.grow(1, false) && there.grow(1, false))) {
                throw new IllegalStateException("too much is reached");
            }
            if (here.meets(there)) {
                return k;
            }
        }
        return NONE;
    }

    // ---- counts ----

    public int count(int what) {
        switch (what) {
            case 0:
                return current.operators;
            case 1:
                return current.variables;
            case 2:
                return told.used;
            case 3:
                return rules();
            case 4:
                return rulesOn;
            case 5:
                return shown.length;
            case 6:
                return normalTerms();
            case 7:
                return greatestSize();
            case 8:
                return matchesOfAll();
            default:
                return NONE;
        }
    }

    private int normalTerms() {
        int bits = 0;
        stepper.prepare(sides, rulesOn);
        for (int i = 0; i < told.used; i++) {
            if (!stepper.list(told, i, SIZE)) {
                return NONE;
            }
            if (stepper.used() == 0) {
                bits |= 1 << i;
            }
        }
        return bits;
    }

    private int greatestSize() {
        int greatest = 0;
        for (int i = 0; i < told.used; i++) {
            greatest = Math.max(greatest, told.lengthOf(i));
        }
        return greatest;
    }

    private int matchesOfAll() {
        int all = 0;
        for (int r = 0; r < rules(); r++) {
            for (int i = 0; (rulesOn >> r & 1) != 0 && i < told.used; i++) {
                terms.clear();
                int left = terms.fromRow(sides, 2 * r);
                if (!matcher.run(left, terms.fromRow(told, i))) {
                    return NONE;
                }
                all += matcher.used;
            }
        }
        return all;
    }

    // ---- what must be there ----

    private int rules() {
        return sides.used >> 1;
    }

    private void checkTerm(int number) {
        if (number < 0 || number >= told.used) {
            throw new IndexOutOfBoundsException("no such term");
        }
    }

    private void checkRule(int number) {
        if (number < 0 || number >= rules()) {
            throw new IndexOutOfBoundsException("no such rule");
        }
    }

    private void checkOperator(int number) {
        if (number < 0 || number >= current.operators) {
            throw new IndexOutOfBoundsException("no such operator");
        }
    }

    private void checkVariable(int number) {
        if (number < 0 || number >= current.variables) {
            throw new IndexOutOfBoundsException("no such variable");
        }
    }

    private void checkDistance(int n) {
        if (n < 0 || n > FARTHEST) {
            throw new IllegalArgumentException("n is not 0 to 4");
        }
    }

    // ---- codes: below 8 a variable, else an operator and how many parts it has there ----

    private static int codeFor(int operator, int parts) {
        return FIRST_CODE * (operator + 1) + parts;
    }

    private static int operatorIn(int code) {
        return code < FIRST_CODE ? NONE : (code >> 3) - 1;
    }

    private static int partsIn(int code) {
        return code < FIRST_CODE ? 0 : code & 7;
    }

    /** The tape, and the tokens of the text that stood on it. */
    private static final class Scanner {
        private static final int END = 0;
        private static final int WORD = 1;
        private static final int NUMBER = 2;
        private static final int SIGN = 3;
        private static final int LETTERS = 6;

        private final int[] tape = new int[TAPE];
        private int length;
        private int limit;
        private int at;
        private int sort;
        private int start;
        /** A word's letters, five bits each (0: too long); a number's digit (NONE: too great); a sign. */
        private int value;

        int append(int a, int b, int c, int d, int e) {
            if (length > TAPE - FED) {
                return NONE;
            }
            write(a);
            write(b);
            write(c);
            write(d);
            write(e);
            return length;
        }

        private void write(int word) {
            for (int shift = 24; shift >= 0; shift -= 8) {
                if (length >= 0 && length < tape.length) {
                    tape[length] = word >>> shift & 255;
                    length++;
                }
            }
        }

        boolean cut(int n) {
            if (n < 0 || n > length) {
                return false;
            }
            length = n;
            return true;
        }

        /** The tape is used up, and its first token is read. */
        void open() {
            limit = length;
            length = 0;
            at = 0;
            advance();
        }

        void advance() {
            int b = look();
            for (int i = 0; i < TAPE && isBlank(b); i++) {
                at++;
                b = look();
            }
            start = at;
            if (b < 0) {
                sort = END;
                value = 0;
            } else if (isLetter(b)) {
                readWord();
            } else if (isDigit(b)) {
                readNumber();
            } else {
                sort = SIGN;
                value = b;
                at++;
            }
        }

        private void readWord() {
            sort = WORD;
            value = 0;
            int letters = 0;
            int b = look();
            while (letters < TAPE && isLetter(b)) {
                value = letters < LETTERS ? value * 32 + (b - 'a' + 1) : 0;
                letters++;
                at++;
                b = look();
            }
        }

        private void readNumber() {
            sort = NUMBER;
            value = NONE;
            int digits = 0;
            int b = look();
            while (digits < TAPE && isDigit(b)) {
                value = digits == 0 ? b - '0' : NONE;
                digits++;
                at++;
                b = look();
            }
        }

        private int look() {
            return at >= 0 && at < limit && at < tape.length ? tape[at] : NONE;
        }

        private static boolean isBlank(int b) {
            return b == 9 || b == 10 || b == 32;
        }

        private static boolean isLetter(int b) {
            return b >= 'a' && b <= 'z';
        }

        private static boolean isDigit(int b) {
            return b >= '0' && b <= '9';
        }

        boolean isSign(int sign) {
            return sort == SIGN && value == sign;
        }
    }

    /** Operators and variables by their numbers. */
    private static final class Signature {
        private static final int WORD_FREE = ((6 * 32 + 18) * 32 + 5) * 32 + 5;
        private static final int WORD_C = 3;
        private static final int WORD_AC = 32 + 3;
        private static final int WORD_UNIT = ((21 * 32 + 14) * 32 + 9) * 32 + 20;
        private static final int WORD_VAR = (22 * 32 + 1) * 32 + 18;

        private final int[] names = new int[OPERATORS];
        private final int[] kinds = new int[OPERATORS];
        private final int[] parts = new int[OPERATORS];
        private final int[] units = new int[OPERATORS];
        private final int[] variableNames = new int[VARIABLES];
        private int operators;
        private int variables;
        /** What never goes lost as terms are put together: variables, then operators, neither sums nor units. */
        private int lastingBits;

        void takeOver(Signature other) {
            System.arraycopy(other.names, 0, names, 0, OPERATORS);
            System.arraycopy(other.kinds, 0, kinds, 0, OPERATORS);
            System.arraycopy(other.parts, 0, parts, 0, OPERATORS);
            System.arraycopy(other.units, 0, units, 0, OPERATORS);
            System.arraycopy(other.variableNames, 0, variableNames, 0, VARIABLES);
            operators = other.operators;
            variables = other.variables;
            lastingBits = other.lastingBits;
        }

        /** Whether the text is a signature; if not, the scanner stands at its fault. */
        boolean read(Scanner in) {
            operators = 0;
            variables = 0;
            lastingBits = (1 << VARIABLES) - 1;
            for (int i = 0; i < TAPE; i++) {
                if (in.sort == Scanner.END) {
                    return true;
                }
                if (!readClause(in) || !in.isSign(';')) {
                    return false;
                }
                in.advance();
            }
            return in.sort == Scanner.END;
        }

        private boolean readClause(Scanner in) {
            int word = in.sort == Scanner.WORD ? in.value : 0;
            boolean variable = word == WORD_VAR;
            if (!variable && word != WORD_FREE && word != WORD_C && word != WORD_AC) {
                return false;
            }
            if (variable ? variables >= VARIABLES : operators >= OPERATORS) {
                return false;
            }
            in.advance();
            if (in.sort != Scanner.WORD || !isNewName(in.value)) {
                return false;
            }
            int name = in.value;
            in.advance();
            if (variable) {
                addVariable(name);
                return true;
            }
            return readOperator(in, word, name);
        }

        private boolean readOperator(Scanner in, int word, int name) {
            if (word == WORD_C) {
                addOperator(name, PAIR, 2, NONE);
                return true;
            }
            if (word == WORD_AC) {
                int unit = NONE;
                if (in.sort == Scanner.WORD && in.value == WORD_UNIT) {
                    in.advance();
                    unit = in.sort == Scanner.WORD ? findOperator(in.value) : NONE;
                    if (unit < 0 || kindOf(unit) != FREE || partsOf(unit) != 0) {
                        return false;
                    }
                    in.advance();
                }
                addOperator(name, SUM, 2, unit);
                return true;
            }
            if (in.sort != Scanner.NUMBER || in.value < 0 || in.value > 3) {
                return false;
            }
            addOperator(name, FREE, in.value, NONE);
            in.advance();
            return true;
        }

        private boolean isNewName(int word) {
            return word != 0 && word != WORD_FREE && word != WORD_C && word != WORD_AC
                    && word != WORD_UNIT && word != WORD_VAR
                    && findOperator(word) < 0 && findVariable(word) < 0;
        }

        private void addOperator(int name, int kind, int n, int unit) {
            if (operators >= 0 && operators < OPERATORS) {
                names[operators] = name;
                kinds[operators] = kind;
                parts[operators] = n;
                units[operators] = unit;
                lastingBits |= kind == SUM ? 0 : 1 << VARIABLES + operators;
                lastingBits &= unit < 0 ? -1 : ~(1 << VARIABLES + unit);
                operators++;
            }
        }

        private void addVariable(int name) {
            if (variables >= 0 && variables < VARIABLES) {
                variableNames[variables] = name;
                variables++;
            }
        }

        int findOperator(int name) {
            for (int i = 0; i < operators && i < OPERATORS; i++) {
                if (names[i] == name) {
                    return i;
                }
            }
            return NONE;
        }

        int findVariable(int name) {
            for (int i = 0; i < variables && i < VARIABLES; i++) {
                if (variableNames[i] == name) {
                    return i;
                }
            }
            return NONE;
        }

        int kindOf(int i) {
            return i >= 0 && i < OPERATORS ? kinds[i] : FREE;
        }

        int partsOf(int i) {
            return i >= 0 && i < OPERATORS ? parts[i] : 0;
        }

        int unitOf(int i) {
            return i >= 0 && i < OPERATORS ? units[i] : NONE;
        }

        /** The code of the operator's unit; NONE without. */
        int unitCodeOf(int i) {
            return i >= 0 && i < OPERATORS && units[i] >= 0 ? FIRST_CODE * (units[i] + 1) : NONE;
        }

        int nameOf(int code) {
            if (code < FIRST_CODE) {
                return code >= 0 && code < VARIABLES ? variableNames[code] : 0;
            }
            int i = operatorIn(code);
            return i >= 0 && i < OPERATORS ? names[i] : 0;
        }
    }

    /** A list of terms as rows of codes. */
    private static final class Rows {
        private final int[] cells;
        private final int[] lengths;
        private final int[] open;
        private int used;

        Rows(int most) {
            int n = Math.max(1, Math.min(most, STEPS + 1));
            cells = new int[n * SIZE];
            lengths = new int[n];
            open = new int[SIZE + 1];
        }

        void clear() {
            used = 0;
        }

        void dropLast() {
            used = Math.max(0, used - 1);
        }

        /** An empty row behind the others; false if there is no room. */
        boolean start() {
            if (used < 0 || used >= lengths.length) {
                return false;
            }
            lengths[used] = 0;
            used++;
            return true;
        }

        /** A cell behind the last row's others. */
        void put(int code) {
            int i = used - 1;
            if (i >= 0 && i < lengths.length && lengths[i] >= 0 && lengths[i] < SIZE) {
                int at = i * SIZE + lengths[i];
                if (at < cells.length) {
                    cells[at] = code;
                    lengths[i]++;
                }
            }
        }

        void copy(Rows from, int i) {
            copyCells(from, i, 0, from.lengthOf(i));
        }

        void copyCells(Rows from, int i, int at, int n) {
            if (start()) {
                for (int k = 0; k < n && k < SIZE; k++) {
                    put(from.cellAt(i, at + k));
                }
            }
        }

        int lengthOf(int i) {
            return i >= 0 && i < used && i < lengths.length ? lengths[i] : 0;
        }

        int cellAt(int i, int k) {
            if (i < 0 || i >= lengths.length || k < 0 || k >= SIZE) {
                return 0;
            }
            int at = i * SIZE + k;
            return at < cells.length ? cells[at] : 0;
        }

        /** ORDER: -1, 0 or 1. */
        int compare(int i, Rows other, int j) {
            int n = lengthOf(i);
            int m = other.lengthOf(j);
            for (int k = 0; k < n && k < m; k++) {
                int a = cellAt(i, k);
                int b = other.cellAt(j, k);
                if (a != b) {
                    return a < b ? -1 : 1;
                }
            }
            return Integer.compare(n, m);
        }

        int indexOf(Rows other, int j) {
            for (int i = 0; i < used; i++) {
                if (compare(i, other, j) == 0) {
                    return i;
                }
            }
            return NONE;
        }

        /** Which of the rows whose bits are set is the k-th by ORDER; NONE without. The rows are unlike. */
        int nth(int k, long among) {
            for (int i = 0; i < used; i++) {
                if ((among >> i & 1L) != 0 && ahead(i, among) == k) {
                    return i;
                }
            }
            return NONE;
        }

        private int ahead(int i, long among) {
            int n = 0;
            for (int j = 0; j < used; j++) {
                if ((among >> j & 1L) != 0 && compare(j, this, i) < 0) {
                    n++;
                }
            }
            return n;
        }

        /** How many cells the term that begins at a cell has. */
        int spanAt(int i, int at) {
            int awaited = 1;
            int k = at;
            int n = lengthOf(i);
            while (awaited > 0 && k < n) {
                awaited += partsIn(cellAt(i, k)) - 1;
                k++;
            }
            return k - at;
        }

        int depthOf(int i) {
            int deepest = 0;
            int level = 0;
            int n = lengthOf(i);
            for (int k = 0; k < n; k++) {
                deepest = Math.max(deepest, level);
                int parts = partsIn(cellAt(i, k));
                if (parts > 0 && level < SIZE) {
                    level++;
                    open[level] = parts;
                } else {
                    level = leave(level);
                }
            }
            return deepest;
        }

        /** Behind a term without parts: up to the level whose operator awaits more. */
        private int leave(int from) {
            int level = from;
            while (level > 0 && level <= SIZE) {
                open[level]--;
                if (open[level] > 0) {
                    break;
                }
                level--;
            }
            return level;
        }

        int variablesIn(int i) {
            int bits = 0;
            for (int k = 0; k < lengthOf(i); k++) {
                int code = cellAt(i, k);
                bits |= code < FIRST_CODE ? 1 << code : 0;
            }
            return bits;
        }

        int timesOfVariables(int i) {
            int n = 0;
            for (int k = 0; k < lengthOf(i); k++) {
                n += cellAt(i, k) < FIRST_CODE ? 1 : 0;
            }
            return n;
        }

        int operatorsIn(int i) {
            int bits = 0;
            for (int k = 0; k < lengthOf(i); k++) {
                int code = cellAt(i, k);
                bits |= code < FIRST_CODE ? 0 : 1 << operatorIn(code);
            }
            return bits;
        }

        /** How many of the term's own parts have the operator. */
        int partsWith(int i, int operator) {
            int n = 0;
            int k = 1;
            for (int part = partsIn(cellAt(i, 0)); part > 0; part--) {
                n += operatorIn(cellAt(i, k)) == operator ? 1 : 0;
                k += spanAt(i, k);
            }
            return n;
        }
    }

    /** The term that was told last so, and its text. */
    private static final class Shown {
        private static final int BYTES = 256;

        private final Signature names;
        private final Rows row = new Rows(1);
        private final int[] bytes = new int[BYTES];
        private final int[] awaited = new int[SIZE + 1];
        private int length;

        Shown(Signature names) {
            this.names = names;
        }

        void clear() {
            row.clear();
            length = 0;
        }

        int take(Rows from, int i) {
            row.clear();
            row.copy(from, i);
            spell();
            return length;
        }

        int byteAt(int k) {
            return k >= 0 && k < length && k < BYTES ? bytes[k] : NONE;
        }

        private void spell() {
            length = 0;
            int level = 0;
            int n = row.lengthOf(0);
            for (int k = 0; k < n; k++) {
                int code = row.cellAt(0, k);
                putName(names.nameOf(code));
                int parts = partsIn(code);
                if (parts > 0 && level < SIZE) {
                    putByte('(');
                    level++;
                    awaited[level] = parts;
                } else {
                    level = closeAll(level);
                }
            }
        }

        private int closeAll(int from) {
            int level = from;
            while (level > 0 && level <= SIZE) {
                awaited[level]--;
                if (awaited[level] > 0) {
                    putByte(',');
                    break;
                }
                putByte(')');
                level--;
            }
            return level;
        }

        private void putName(int name) {
            for (int shift = 25; shift >= 0; shift -= 5) {
                int letter = name >>> shift & 31;
                if (letter > 0) {
                    putByte('a' + letter - 1);
                }
            }
        }

        private void putByte(int b) {
            if (length >= 0 && length < BYTES) {
                bytes[length] = b;
                length++;
            }
        }
    }

    /**
     * Terms as nodes: those that stand alike are one node, so that alike is the same number. The nodes
     * made since some moment are given back all together, the latest first.
     */
    private static final class Terms {
        private static final int NODES = 1024;
        private static final int BUCKETS = 256;

        private static final int FIELD = 6;
        private static final int FIELDS = 10;

        private static final int LONE = 0;
        private static final int FLEXIBLE = 1;
        private static final int RIGID = 2;

        private final Signature kinds;
        private final int[] codes = new int[NODES];
        private final int[] sizes = new int[NODES];
        private final int[] masks = new int[NODES];
        private final int[] parts = new int[NODES * PARTS];
        /** How often variables and lasting operators stand in it: FIELD bits each, those of the rest in highs. */
        private final long[] lows = new long[NODES];
        private final long[] highs = new long[NODES];
        private final int[] hashes = new int[NODES];
        private final int[] nexts = new int[NODES];
        private final int[] buckets = new int[BUCKETS];
        private final int[] line = new int[PARTS];
        private final int[] stack = new int[SIZE * PARTS];
        private int used;
        private int stacked;
        private int lined;
        private int lineOperator;
        private int lineKind;
        private int lineUnit;
        private boolean spoiled;

        Terms(Signature kinds) {
            this.kinds = kinds;
            for (int i = 0; i < BUCKETS; i++) {
                buckets[i] = NONE;
            }
        }

        void clear() {
            giveBack(0);
            stacked = 0;
        }

        /** Only the first nodes stay. */
        void giveBack(int first) {
            for (int id = used - 1; id >= first && id >= 0 && id < NODES; id--) {
                int hash = hashes[id];
                if (hash >= 0 && hash < BUCKETS) {
                    buckets[hash] = nexts[id];
                }
            }
            used = Math.max(0, Math.min(used, first));
        }

        int codeOf(int id) {
            return id >= 0 && id < used && id < NODES ? codes[id] : 0;
        }

        int maskOf(int id) {
            return id >= 0 && id < used && id < NODES ? masks[id] : 0;
        }

        long lowOf(int id) {
            return id >= 0 && id < used && id < NODES ? lows[id] : 0;
        }

        long highOf(int id) {
            return id >= 0 && id < used && id < NODES ? highs[id] : 0;
        }

        int partOf(int id, int i) {
            return id >= 0 && id < used && id < NODES && i >= 0 && i < PARTS ? parts[id * PARTS + i] : NONE;
        }

        int kindAt(int id) {
            int code = codeOf(id);
            return code < FIRST_CODE ? FREE : kinds.kindOf(operatorIn(code));
        }

        boolean hasUnit(int operator) {
            return kinds.unitOf(operator) >= 0;
        }

        /** How many parts a term has as a sum of the operator: its own, else itself alone, of the unit none. */
        int partsAsSum(int id, int operator) {
            int code = codeOf(id);
            if (operatorIn(code) == operator) {
                return partsIn(code);
            }
            return code == kinds.unitCodeOf(operator) ? 0 : 1;
        }

        int partAsSum(int id, int operator, int i) {
            if (id < 0 || id >= used || id >= NODES || i < 0 || i >= PARTS) {
                return NONE;
            }
            return codes[id] >> 3 == operator + 1 ? parts[id * PARTS + i] : id;
        }

        /** How a part of a sum's pattern is met: of a variable, and of a sum with a unit, by any parts. */
        int sortOf(int id) {
            int operator = id >= 0 && id < used && id < NODES ? (codes[id] >> 3) - 1 : NONE;
            if (operator < 0 || operator >= OPERATORS) {
                return LONE;
            }
            return kinds.kinds[operator] == SUM && kinds.units[operator] >= 0 ? FLEXIBLE : RIGID;
        }

        /** The sum of those of a term's parts whose bits are set; TOO_GREAT for none of them without a unit. */
        int subSum(int id, int operator, int bits) {
            int n = 0;
            for (int i = 0; i < PARTS; i++) {
                if ((bits >> i & 1) != 0 && n < PARTS) {
                    line[n] = partAsSum(id, operator, i);
                    n++;
                }
            }
            if (n == 1) {
                return line[0];
            }
            if (n == 0) {
                int unit = kinds.unitCodeOf(operator);
                return unit < 0 ? TOO_GREAT : intern(unit, 0);
            }
            return intern(codeFor(operator, n), n);
        }

        /** Whether of parts that are alike the first ones are taken, so that each choice is met once. */
        boolean isFirstChoice(int id, int operator, int bits) {
            for (int i = 1; i < PARTS; i++) {
                if ((bits >> i - 1 & 3) == 2 && partAsSum(id, operator, i) == partAsSum(id, operator, i - 1)) {
                    return false;
                }
            }
            return true;
        }

        /** What is left of some parts (bits) of a sum without those of another; NONE if they are not in it. */
        int without(int id, int operator, int bits, int other) {
            int left = bits;
            int n = partsAsSum(other, operator);
            for (int k = 0; k < n; k++) {
                int part = partAsSum(other, operator, k);
                int i = 0;
                while (i < PARTS && ((left >> i & 1) == 0 || partAsSum(id, operator, i) != part)) {
                    i++;
                }
                if (i >= PARTS) {
                    return NONE;
                }
                left &= ~(1 << i);
            }
            return left;
        }

        /** ORDER of two nodes. */
        int compare(int one, int two) {
            int a = one;
            int b = two;
            for (int deep = 0; deep <= SIZE && a != b; deep++) {
                if (a < 0 || b < 0 || a >= NODES || b >= NODES) {
                    return a < b ? -1 : 1;
                }
                if (codes[a] != codes[b]) {
                    return codes[a] < codes[b] ? -1 : 1;
                }
                int i = 0;
                while (i < PARTS - 1 && parts[a * PARTS + i] == parts[b * PARTS + i]) {
                    i++;
                }
                a = parts[a * PARTS + i];
                b = parts[b * PARTS + i];
            }
            return 0;
        }

        /** Parts are laid next, one by one; then the term of the operator over them is closed. */
        void begin(int operator) {
            lined = 0;
            spoiled = false;
            lineOperator = operator;
            lineKind = kinds.kindOf(operator);
            lineUnit = lineKind == SUM ? kinds.unitCodeOf(operator) : NONE;
        }

        void lay(int part) {
            if (part < 0 || part >= used || part >= NODES) {
                spoiled = true;
                return;
            }
            int code = codes[part];
            boolean own = lineKind == SUM && code >> 3 == lineOperator + 1;
            if (code == lineUnit) {
                return;
            }
            int n = own ? code & 7 : 1;
            for (int i = 0; i < n && i < PARTS; i++) {
                int laid = own ? parts[part * PARTS + i] : part;
                if (lined < 0 || lined >= PARTS) {
                    spoiled = true;
                    return;
                }
                int j = lined;
                while (j > 0 && lineKind != FREE && compare(line[j - 1], laid) > 0) {
                    line[j] = line[j - 1];
                    j--;
                }
                line[j] = laid;
                lined++;
            }
        }

        /** The node; TOO_GREAT if it, or a part of it, is. */
        int close() {
            if (spoiled) {
                return TOO_GREAT;
            }
            if (lineKind == SUM && lined == 1) {
                return line[0];
            }
            if (lineKind == SUM && lined == 0) {
                return lineUnit < 0 ? TOO_GREAT : intern(lineUnit, 0);
            }
            return intern(codeFor(lineOperator, lined), lined);
        }

        int leaf(int code) {
            return intern(code, 0);
        }

        /** The node of a code and of the first n on the line. */
        private int intern(int code, int n) {
            int hash = code;
            int size = 1;
            int mask = code < FIRST_CODE ? 1 << code : 0;
            for (int i = 0; i < n && i < PARTS; i++) {
                int part = line[i];
                if (part < 0 || part >= used || part >= NODES) {
                    return TOO_GREAT;
                }
                hash = hash * 31 + part;
                size += sizes[part];
                mask |= masks[part];
            }
            if (size > SIZE || n > PARTS) {
                return TOO_GREAT;
            }
            hash = (hash ^ hash >>> 8) & BUCKETS - 1;
            int id = buckets[hash];
            for (int guard = 0; guard < NODES && id >= 0 && id < NODES; guard++) {
                int i = codes[id] == code ? 0 : n + 1;
                while (i < n && parts[id * PARTS + i] == line[i]) {
                    i++;
                }
                if (i == n) {
                    return id;
                }
                id = nexts[id];
            }
            if (used < 0 || used >= NODES) {
                return TOO_GREAT;
            }
            id = used;
            used++;
            codes[id] = code;
            sizes[id] = size;
            masks[id] = mask;
            hashes[id] = hash;
            nexts[id] = buckets[hash];
            buckets[hash] = id;
            int head = code < FIRST_CODE ? code : VARIABLES + (code >> 3) - 1;
            boolean lasting = (kinds.lastingBits >> head & 1) != 0;
            lows[id] = lasting && head < FIELDS ? 1L << FIELD * head : 0;
            highs[id] = lasting && head >= FIELDS ? 1L << FIELD * (head - FIELDS) : 0;
            for (int i = 0; i < n; i++) {
                parts[id * PARTS + i] = line[i];
                lows[id] += lows[line[i]];
                highs[id] += highs[line[i]];
            }
            return id;
        }

        /** The node of a row; the row is a term as it stands. */
        int fromRow(Rows rows, int row) {
            int held = stacked;
            for (int k = rows.lengthOf(row) - 1; k >= 0; k--) {
                int code = rows.cellAt(row, k);
                int n = partsIn(code);
                for (int i = 0; i < n && i < PARTS; i++) {
                    line[i] = pop();
                }
                push(intern(code, n));
            }
            int id = pop();
            stacked = held;
            return id;
        }

        /** The node's row comes behind the others. */
        void write(int id, Rows rows) {
            int held = stacked;
            if (!rows.start()) {
                return;
            }
            push(id);
            for (int k = 0; k < SIZE && stacked > held; k++) {
                int node = pop();
                int code = codeOf(node);
                rows.put(code);
                for (int i = partsIn(code) - 1; i >= 0; i--) {
                    push(partOf(node, i));
                }
            }
            stacked = held;
        }

        private void push(int id) {
            if (stacked >= 0 && stacked < stack.length) {
                stack[stacked] = id;
                stacked++;
            }
        }

        private int pop() {
            if (stacked <= 0 || stacked > stack.length) {
                return NONE;
            }
            stacked--;
            return stack[stacked];
        }

        /** The node with each variable put in as its binding (NONE: it stays); TOO_GREAT. */
        int put(int id, int[] bindings, int base, int depth) {
            int code = codeOf(id);
            if (code < FIRST_CODE) {
                int at = base + code;
                int by = at >= 0 && at < bindings.length ? bindings[at] : NONE;
                return by < 0 ? id : by;
            }
            if (maskOf(id) == 0) {
                return id;
            }
            if (depth > SIZE) {
                return TOO_GREAT;
            }
            int held = stacked;
            int n = partsIn(code);
            for (int i = 0; i < n; i++) {
                push(put(partOf(id, i), bindings, base, depth + 1));
            }
            begin(operatorIn(code));
            for (int i = held; i < stacked && i >= 0 && i < stack.length; i++) {
                lay(stack[i]);
            }
            stacked = held;
            return close();
        }
    }

    /** Reads a term of the text, as a node. */
    private static final class Reader {
        private final Scanner in;
        private final Signature names;
        private final Terms terms;
        private final int[] values = new int[TAPE];
        private final int[] operators = new int[TAPE];
        private final int[] bases = new int[TAPE];
        private int valued;
        private int opened;

        Reader(Scanner in, Signature names, Terms terms) {
            this.in = in;
            this.names = names;
            this.terms = terms;
        }

        /** The node; TOO_GREAT; or WRONG, and the scanner stands at the fault. */
        int read() {
            valued = 0;
            opened = 0;
            for (int i = 0; i < TAPE; i++) {
                int open = opened;
                if (!readHead()) {
                    return WRONG;
                }
                if (opened > open) {
                    continue;
                }
                if (!closeAll()) {
                    return WRONG;
                }
                if (opened == 0) {
                    return values[0];
                }
            }
            return WRONG;
        }

        /** A name and, where parts come behind it, the bracket. */
        private boolean readHead() {
            if (in.sort != Scanner.WORD) {
                return false;
            }
            int variable = names.findVariable(in.value);
            int operator = names.findOperator(in.value);
            if (variable < 0 && operator < 0) {
                return false;
            }
            in.advance();
            if (variable >= 0) {
                addValue(terms.leaf(variable));
                return true;
            }
            if (names.partsOf(operator) == 0) {
                addValue(terms.leaf(codeFor(operator, 0)));
                return true;
            }
            if (!in.isSign('(') || opened < 0 || opened >= TAPE) {
                return false;
            }
            operators[opened] = operator;
            bases[opened] = valued;
            opened++;
            in.advance();
            return true;
        }

        /** Behind a term: closes what ends there, up to a comma; false if neither can stand there. */
        private boolean closeAll() {
            for (int i = 0; i < TAPE && opened > 0 && opened <= TAPE; i++) {
                int operator = operators[opened - 1];
                int have = valued - bases[opened - 1];
                int least = names.partsOf(operator);
                int most = names.kindOf(operator) == SUM ? WRITTEN_PARTS : least;
                if (have < most && in.isSign(',')) {
                    in.advance();
                    return true;
                }
                if (have < least || !in.isSign(')')) {
                    return false;
                }
                in.advance();
                closeLast(operator);
            }
            return true;
        }

        private void closeLast(int operator) {
            opened--;
            int base = opened >= 0 && opened < TAPE ? bases[opened] : 0;
            terms.begin(operator);
            for (int i = base; i < valued && i >= 0 && i < TAPE; i++) {
                terms.lay(values[i]);
            }
            valued = base;
            addValue(terms.close());
        }

        private void addValue(int node) {
            if (valued >= 0 && valued < TAPE) {
                values[valued] = node;
                valued++;
            }
        }
    }

    /**
     * All matches of a pattern and a term. What is still to be met is a chain of goals; where there are
     * several ways, a branch keeps the goal and the next way, and the search goes back to the last one.
     */
    private static final class Matcher {
        private static final int GOALS = 256;
        private static final int BRANCHES = 64;
        private static final int MOVES = 100000000;
        /** Where a chain of goals ends. */
        private static final int MET = -1;
        /** The last branch has to tell its next way. */
        private static final int BACK = -2;
        private static final int ALL = (1 << PARTS) - 1;
        /** The highest bit of each field of counts: it goes lost where a count would go below 0. */
        private static final long GUARDS = 0x820820820820820L;
        private static final long OPERATOR_FIELDS = -1L << Terms.FIELD * VARIABLES;

        private final Terms terms;
        private final int[] goalPatterns = new int[GOALS];
        /** Of a sum's pattern the parts that are still to be met, as bits. */
        private final int[] goalParts = new int[GOALS];
        private final int[] goalTargets = new int[GOALS];
        private final int[] goalNexts = new int[GOALS];
        private final int[] bindings = new int[VARIABLES];
        private final int[] branchGoals = new int[BRANCHES];
        private final int[] branchParts = new int[BRANCHES];
        private final int[] branchWays = new int[BRANCHES];
        private final int[] branchLimits = new int[BRANCHES];
        private final int[] branchBound = new int[BRANCHES];
        private final int[] branchUsed = new int[BRANCHES];
        private final int[] found = new int[(MATCHES + 1) * VARIABLES];
        private final int[] sorted = new int[MATCHES + 1];
        private int wholePattern;
        private int wholeTarget;
        private int goals;
        private int branches;
        private int boundVariables;
        /** How many are found; above MATCHES they are too many, and none is told. */
        private int used;

        Matcher(Terms terms) {
            this.terms = terms;
        }

        /** Finds them all; false if they are too many. */
        boolean run(int pattern, int target) {
            used = 0;
            goals = 0;
            branches = 0;
            boundVariables = 0;
            wholePattern = pattern;
            wholeTarget = target;
            int goal = !fits(pattern, target) ? BACK : addGoal(pattern, ALL, target, MET);
            for (int i = 0; i < MOVES && used <= MATCHES; i++) {
                if (goal >= 0 && goal < GOALS) {
                    goal = terms.kindAt(goalPatterns[goal]) == SUM ? meetSum(goal) : meetPlain(goal);
                } else if (goal == MET) {
                    record();
                    goal = BACK;
                } else if (branches <= 0) {
                    return true;
                } else if (hasWay()) {
                    goal = lastIsPair() ? meetPair(branches - 1) : share(branches - 1);
                }
            }
            return false;
        }

        /** Where the k-th match by ORDER has its bindings among those found. */
        int baseOf(int k) {
            return k >= 0 && k < used && k <= MATCHES ? sorted[k] * VARIABLES : 0;
        }

        int boundTo(int k, int variable) {
            int at = baseOf(k) + variable;
            return at >= 0 && at < found.length ? found[at] : NONE;
        }

        private int addGoal(int pattern, int parts, int target, int next) {
            if (goals < 0 || goals >= GOALS || target < 0) {
                return BACK;
            }
            goalPatterns[goals] = pattern;
            goalParts[goals] = parts;
            goalTargets[goals] = target;
            goalNexts[goals] = next;
            goals++;
            return goals - 1;
        }

        private void bind(int variable, int node) {
            if (variable >= 0 && variable < VARIABLES) {
                bindings[variable] = node;
                boundVariables |= 1 << variable;
            }
        }

        /** Whether all that cannot go lost of a pattern, and of what is bound in it, is in the target. */
        private boolean fits(int pattern, int target) {
            long times = terms.lowOf(pattern);
            long low = (terms.lowOf(target) | GUARDS) - (times & OPERATOR_FIELDS);
            long high = (terms.highOf(target) | GUARDS) - terms.highOf(pattern);
            for (int v = 0; v < VARIABLES; v++) {
                boolean isBound = (boundVariables >> v & 1) != 0;
                for (int n = (int) (times >> Terms.FIELD * v) & 31; isBound && n > 0; n--) {
                    if ((low & high & GUARDS) != GUARDS) {
                        return false;
                    }
                    low -= terms.lowOf(bindings[v]);
                    high -= terms.highOf(bindings[v]);
                }
            }
            return (low & high & GUARDS) == GUARDS;
        }

        /** A variable, or a free or c operator. */
        private int meetPlain(int goal) {
            if (goal < 0 || goal >= GOALS) {
                return BACK;
            }
            int pattern = goalPatterns[goal];
            int target = goalTargets[goal];
            int code = terms.codeOf(pattern);
            if ((terms.maskOf(pattern) & ~boundVariables) == 0) {
                int mark = terms.used;
                boolean same = terms.put(pattern, bindings, 0, 0) == target;
                terms.giveBack(mark);
                return same ? goalNexts[goal] : BACK;
            }
            if (code < FIRST_CODE) {
                bind(code, target);
                return fits(wholePattern, wholeTarget) ? goalNexts[goal] : BACK;
            }
            if (terms.codeOf(target) != code) {
                return BACK;
            }
            if (terms.kindAt(pattern) == PAIR) {
                addBranch(goal, 0, 2);
                return BACK;
            }
            return meetParts(goal);
        }

        /** The parts of a free operator, those first that have one way alone. */
        private int meetParts(int goal) {
            if (goal < 0 || goal >= GOALS) {
                return BACK;
            }
            int pattern = goalPatterns[goal];
            int target = goalTargets[goal];
            int chain = goalNexts[goal];
            int n = partsIn(terms.codeOf(pattern));
            for (int pass = 0; pass < 2; pass++) {
                for (int i = n - 1; i >= 0; i--) {
                    int part = terms.partOf(pattern, i);
                    boolean plain = terms.kindAt(part) == FREE;
                    if (plain == (pass == 1)) {
                        chain = addGoal(part, ALL, terms.partOf(target, i), chain);
                    }
                }
            }
            return chain;
        }

        /** Takes what is bound already out of the sum; what is left is shared out. */
        private int meetSum(int goal) {
            if (goal < 0 || goal >= GOALS) {
                return BACK;
            }
            int pattern = goalPatterns[goal];
            int target = goalTargets[goal];
            int code = terms.codeOf(pattern);
            int operator = operatorIn(code);
            int n = partsIn(code);
            int left = goalParts[goal] & (1 << n) - 1;
            int rest = (1 << terms.partsAsSum(target, operator)) - 1;
            for (int i = 0; i < n && rest >= 0; i++) {
                int part = terms.partOf(pattern, i);
                if ((left >> i & 1) != 0 && (terms.maskOf(part) & ~boundVariables) == 0) {
                    int mark = terms.used;
                    int filled = terms.put(part, bindings, 0, 0);
                    rest = filled < 0 ? NONE : terms.without(target, operator, rest, filled);
                    terms.giveBack(mark);
                    left &= ~(1 << i);
                }
            }
            if (rest < 0) {
                return BACK;
            }
            int remaining = remainder(goal, left, rest);
            if (remaining < 0 || Integer.bitCount(left) < 2) {
                return remaining;
            }
            branchOverSum(remaining);
            return BACK;
        }

        /** The goal that some parts of a sum's pattern are met by some parts of its target. */
        private int remainder(int goal, int left, int rest) {
            if (goal < 0 || goal >= GOALS) {
                return BACK;
            }
            int pattern = goalPatterns[goal];
            int operator = operatorIn(terms.codeOf(pattern));
            if (left == 0) {
                return rest == 0 ? goalNexts[goal] : BACK;
            }
            if (!terms.hasUnit(operator) && Integer.bitCount(rest) < Integer.bitCount(left)) {
                return BACK;
            }
            int sum = terms.subSum(goalTargets[goal], operator, rest);
            if (Integer.bitCount(left) > 1) {
                return addGoal(pattern, left, sum, goalNexts[goal]);
            }
            int part = terms.partOf(pattern, Integer.numberOfTrailingZeros(left));
            return addGoal(part, ALL, sum, goalNexts[goal]);
        }

        /** Chooses the part of the pattern that has the fewest ways. */
        private void branchOverSum(int goal) {
            if (goal < 0 || goal >= GOALS) {
                return;
            }
            int pattern = goalPatterns[goal];
            int left = goalParts[goal];
            int best = NONE;
            int bestWorth = 0;
            for (int i = 0; i < PARTS; i++) {
                int worth = (left >> i & 1) != 0 ? worthOf(terms.partOf(pattern, i)) : 0;
                if (worth > bestWorth) {
                    best = i;
                    bestWorth = worth;
                }
            }
            int n = terms.partsAsSum(goalTargets[goal], operatorIn(terms.codeOf(pattern)));
            boolean rigid = terms.sortOf(terms.partOf(pattern, best)) == Terms.RIGID;
            addBranch(goal, best, rigid ? n : 1 << n);
        }

        /** One part alone meets a rigid one; a variable that stands often can have few; the others follow. */
        private int worthOf(int part) {
            int sort = terms.sortOf(part);
            if (sort == Terms.RIGID) {
                return SIZE + 2;
            }
            if (sort == Terms.FLEXIBLE) {
                return 2;
            }
            int times = (int) (terms.lowOf(wholePattern) >> Terms.FIELD * terms.codeOf(part)) & 31;
            return times > 1 ? times + 1 : 1;
        }

        private void addBranch(int goal, int part, int ways) {
            if (branches < 0 || branches >= BRANCHES) {
                used = MATCHES + 1;
                return;
            }
            branchGoals[branches] = goal;
            branchParts[branches] = part;
            branchWays[branches] = -1;
            branchLimits[branches] = ways;
            branchBound[branches] = boundVariables;
            branchUsed[branches] = goals;
            branches++;
        }

        /** Goes back to the last branch, to its next way; false, and it is given up, if there is none. */
        private boolean hasWay() {
            int last = branches - 1;
            if (last < 0 || last >= BRANCHES) {
                return false;
            }
            boundVariables = branchBound[last];
            goals = branchUsed[last];
            branchWays[last]++;
            if (branchWays[last] < branchLimits[last]) {
                return true;
            }
            branches--;
            return false;
        }

        private boolean lastIsPair() {
            int last = branches - 1;
            int goal = last >= 0 && last < BRANCHES ? branchGoals[last] : NONE;
            return goal >= 0 && goal < GOALS && terms.kindAt(goalPatterns[goal]) == PAIR;
        }

        private int meetPair(int branch) {
            int goal = branch >= 0 && branch < BRANCHES ? branchGoals[branch] : NONE;
            if (goal < 0 || goal >= GOALS) {
                return BACK;
            }
            int way = branchWays[branch];
            int pattern = goalPatterns[goal];
            int first = terms.partOf(goalTargets[goal], way);
            int second = terms.partOf(goalTargets[goal], 1 - way);
            if (way == 1 && first == second) {
                return BACK;
            }
            int later = addGoal(terms.partOf(pattern, 1), ALL, second, goalNexts[goal]);
            return addGoal(terms.partOf(pattern, 0), ALL, first, later);
        }

        /** A part of a sum's pattern has some of the target's parts, the others of the pattern the rest. */
        private int share(int branch) {
            int goal = branch >= 0 && branch < BRANCHES ? branchGoals[branch] : NONE;
            if (goal < 0 || goal >= GOALS) {
                return BACK;
            }
            int pattern = goalPatterns[goal];
            int target = goalTargets[goal];
            int operator = operatorIn(terms.codeOf(pattern));
            int part = terms.partOf(pattern, branchParts[branch]);
            int sort = terms.sortOf(part);
            int way = branchWays[branch];
            int chosen = sort == Terms.RIGID ? 1 << way : way;
            if (!terms.isFirstChoice(target, operator, chosen) || chosen == 0 && !terms.hasUnit(operator)) {
                return BACK;
            }
            int code = terms.codeOf(part);
            int sum = terms.subSum(target, operator, chosen);
            if (sort == Terms.RIGID && operatorIn(terms.codeOf(sum)) != operatorIn(code)) {
                return BACK;
            }
            int left = goalParts[goal];
            int rest = (1 << terms.partsAsSum(target, operator)) - 1;
            for (int i = 0; i < PARTS && rest >= 0; i++) {
                boolean alike = i == branchParts[branch] || sort == Terms.LONE && terms.partOf(pattern, i) == part;
                if ((left >> i & 1) != 0 && alike) {
                    left &= ~(1 << i);
                    rest = terms.without(target, operator, rest, sum);
                }
            }
            if (rest < 0 || sort != Terms.LONE && !fits(part, sum)) {
                return BACK;
            }
            if (sort == Terms.LONE) {
                bind(code, sum);
                return fits(wholePattern, wholeTarget) ? remainder(goal, left, rest) : BACK;
            }
            int next = remainder(goal, left, rest);
            return next == BACK ? BACK : addGoal(part, ALL, sum, next);
        }

        /** Keeps what the variables have now, in its place by ORDER, if it was not met before. */
        private void record() {
            int slot = used;
            if (slot < 0 || slot > MATCHES) {
                return;
            }
            for (int v = 0; v < VARIABLES; v++) {
                found[slot * VARIABLES + v] = (boundVariables >> v & 1) != 0 ? bindings[v] : NONE;
            }
            int low = 0;
            int high = used;
            while (low < high) {
                int middle = low + high >>> 1;
                int sign = compareFound(slot, sorted[middle]);
                if (sign == 0) {
                    return;
                }
                if (sign < 0) {
                    high = middle;
                } else {
                    low = middle + 1;
                }
            }
            if (used >= MATCHES) {
                used = MATCHES + 1;
                return;
            }
            System.arraycopy(sorted, low, sorted, low + 1, used - low);
            sorted[low] = slot;
            used++;
        }

        private int compareFound(int one, int two) {
            for (int v = 0; v < VARIABLES; v++) {
                int a = one * VARIABLES + v;
                int b = two * VARIABLES + v;
                if (a >= 0 && b >= 0 && a < found.length && b < found.length && found[a] != found[b]) {
                    return terms.compare(found[a], found[b]);
                }
            }
            return 0;
        }
    }

    /** The steps of a term, by places, rules and ORDER. */
    private static final class Stepper {
        private final Terms terms;
        private final Matcher matcher;
        private final Rows found = new Rows(STEPS + 1);
        private final int[] sorted = new int[STEPS + 1];
        private final int[] stepPlaces = new int[STEPS + 1];
        private final int[] stepRules = new int[STEPS + 1];
        private final int[] lefts = new int[RULES];
        private final int[] rights = new int[RULES];
        private final int[] placeNodes = new int[SIZE];
        private final int[] placeParents = new int[SIZE];
        private final int[] placeIndexes = new int[SIZE];
        private final int[] placeSeen = new int[SIZE];
        private int rulesUsed;
        private int base;
        private int places;
        /** Where the steps at the present place by the present rule begin. */
        private int group;

        Stepper(Terms terms, Matcher matcher) {
            this.terms = terms;
            this.matcher = matcher;
        }

        /** The rules whose bits are set are used from now on. */
        void prepare(Rows sides, int bits) {
            rulesUsed = bits;
            terms.clear();
            for (int r = 0; r < RULES; r++) {
                if ((bits >> r & 1) != 0) {
                    lefts[r] = terms.fromRow(sides, 2 * r);
                    rights[r] = terms.fromRow(sides, 2 * r + 1);
                }
            }
            base = terms.used;
        }

        int used() {
            return found.used;
        }

        int slotOf(int k) {
            return k >= 0 && k < found.used && k <= STEPS ? sorted[k] : 0;
        }

        int placeOf(int k) {
            int slot = slotOf(k);
            return slot >= 0 && slot <= STEPS ? stepPlaces[slot] : 0;
        }

        int ruleOf(int k) {
            int slot = slotOf(k);
            return slot >= 0 && slot <= STEPS ? stepRules[slot] : 0;
        }

        /** Finds the steps at the first places of a row's term; false if they, or matches, are too many. */
        boolean list(Rows rows, int at, int mostPlaces) {
            found.clear();
            terms.giveBack(base);
            layPlaces(terms.fromRow(rows, at), mostPlaces);
            int mark = terms.used;
            for (int i = 0; i < places; i++) {
                for (int r = 0; r < RULES; r++) {
                    group = found.used;
                    for (int bits = wholeOf(i, r); bits >= 0; bits--) {
                        int target = targetOf(i, r, bits);
                        if (target >= 0 && !(matcher.run(lefts[r], target) && offerAll(i, r, bits))) {
                            return false;
                        }
                        terms.giveBack(mark);
                    }
                }
            }
            return true;
        }

        private void layPlaces(int root, int most) {
            places = 0;
            int parent = NONE;
            for (int k = 0; k < most && k < SIZE; k++) {
                parent = awaiting(parent);
                if (k > 0 && (parent < 0 || parent >= k)) {
                    return;
                }
                placeIndexes[k] = k > 0 ? placeSeen[parent] : 0;
                placeNodes[k] = k > 0 ? terms.partOf(placeNodes[parent], placeIndexes[k]) : root;
                placeParents[k] = parent;
                placeSeen[k] = 0;
                if (k > 0) {
                    placeSeen[parent]++;
                }
                parent = k;
                places = k + 1;
            }
        }

        /** From a place upward the first one whose parts have not all been laid; NONE. */
        private int awaiting(int from) {
            int at = from;
            for (int up = 0; up < SIZE && at >= 0 && at < SIZE; up++) {
                if (placeSeen[at] < partsIn(terms.codeOf(placeNodes[at]))) {
                    return at;
                }
                at = placeParents[at];
            }
            return NONE;
        }

        /** The bits of all parts, where a rule may take some of them; 0 where it takes the term alone; NONE. */
        private int wholeOf(int i, int r) {
            if (i < 0 || i >= SIZE || r < 0 || r >= RULES || (rulesUsed >> r & 1) == 0) {
                return NONE;
            }
            int code = terms.codeOf(placeNodes[i]);
            boolean shared = terms.kindAt(lefts[r]) == SUM && operatorIn(code) == operatorIn(terms.codeOf(lefts[r]));
            return shared ? (1 << partsIn(code)) - 1 : 0;
        }

        /** What left has to match there; NONE if it cannot, or if the choice of parts is met otherwise. */
        private int targetOf(int i, int r, int bits) {
            if (i < 0 || i >= SIZE || r < 0 || r >= RULES) {
                return NONE;
            }
            int node = placeNodes[i];
            int code = terms.codeOf(lefts[r]);
            int operator = operatorIn(code);
            boolean sum = terms.kindAt(lefts[r]) == SUM;
            boolean unit = sum && terms.hasUnit(operator);
            if (operatorIn(terms.codeOf(node)) != operator) {
                return unit ? node : NONE;
            }
            if (!sum) {
                return node;
            }
            if (!unit && Integer.bitCount(bits) < partsIn(code) || !terms.isFirstChoice(node, operator, bits)) {
                return NONE;
            }
            return terms.subSum(node, operator, bits);
        }

        /** The steps by all matches that were found; false if they are too many. */
        private boolean offerAll(int i, int r, int bits) {
            if (i < 0 || i >= SIZE || r < 0 || r >= RULES) {
                return true;
            }
            int others = wholeOf(i, r) & ~bits;
            for (int k = 0; k < matcher.used; k++) {
                int mark = terms.used;
                int built = terms.put(rights[r], matcher.found, matcher.baseOf(k), 0);
                if (others > 0) {
                    built = withOthers(built, placeNodes[i], others);
                }
                built = rebuild(built, i);
                if (built >= 0 && built != placeNodes[0] && !insert(built, i, r)) {
                    return false;
                }
                terms.giveBack(mark);
            }
            return true;
        }

        private int withOthers(int built, int sum, int others) {
            terms.begin(operatorIn(terms.codeOf(sum)));
            terms.lay(built);
            for (int i = 0; i < PARTS; i++) {
                if ((others >> i & 1) != 0) {
                    terms.lay(terms.partOf(sum, i));
                }
            }
            return terms.close();
        }

        /** The whole term with what was built at a place. */
        private int rebuild(int built, int from) {
            int node = built;
            int at = from;
            for (int deep = 0; deep < SIZE && at > 0 && at < SIZE && node >= 0; deep++) {
                int parent = placeParents[at];
                if (parent < 0 || parent >= SIZE) {
                    return TOO_GREAT;
                }
                int code = terms.codeOf(placeNodes[parent]);
                terms.begin(operatorIn(code));
                for (int i = 0; i < partsIn(code); i++) {
                    terms.lay(i == placeIndexes[at] ? node : terms.partOf(placeNodes[parent], i));
                }
                node = terms.close();
                at = parent;
            }
            return node;
        }

        /** Puts a step in its place among those of its place and rule; false if it is one too many. */
        private boolean insert(int node, int atPlace, int byRule) {
            int slot = found.used;
            terms.write(node, found);
            int low = group;
            int high = slot;
            while (low >= 0 && low < high && high <= STEPS) {
                int middle = low + high >>> 1;
                int sign = found.compare(slot, found, sorted[middle]);
                if (sign == 0) {
                    found.dropLast();
                    return true;
                }
                if (sign < 0) {
                    high = middle;
                } else {
                    low = middle + 1;
                }
            }
            if (slot < 0 || slot >= STEPS || low < 0 || low > slot) {
                return false;
            }
            System.arraycopy(sorted, low, sorted, low + 1, slot - low);
            sorted[low] = slot;
            stepPlaces[slot] = atPlace;
            stepRules[slot] = byRule;
            return true;
        }
    }

    /** What is reached from a term, one step farther each time it grows. */
    private static final class Spread {
        private final Stepper stepper;
        private final Rows rows = new Rows(REACHED + 1);
        private int asked;
        private long normals;

        Spread(Stepper stepper) {
            this.stepper = stepper;
        }

        void begin(Rows from, int i) {
            rows.clear();
            rows.copy(from, i);
            asked = 0;
            normals = 0;
        }

        /**
         * Goes some steps farther: asks the latest terms for their steps each time, and where normal ones
         * are told, those reached last, too; false if it is too much.
         */
        boolean grow(int times, boolean normal) {
            for (int time = 0; time < times || time == times && normal; time++) {
                int end = rows.used;
                for (int i = asked; i < end; i++) {
                    if (!stepper.list(rows, i, SIZE) || time < times && !keepNew()) {
                        return false;
                    }
                    if (stepper.used() == 0) {
                        normals |= 1L << i;
                    }
                }
                asked = end;
            }
            return true;
        }

        private boolean keepNew() {
            for (int k = 0; k < stepper.used(); k++) {
                if (rows.indexOf(stepper.found, k) < 0) {
                    if (rows.used >= REACHED) {
                        return false;
                    }
                    rows.copy(stepper.found, k);
                }
            }
            return true;
        }

        int howManyNormal() {
            return Long.bitCount(normals);
        }

        boolean meets(Spread other) {
            for (int i = 0; i < rows.used; i++) {
                if (other.rows.indexOf(rows, i) >= 0) {
                    return true;
                }
            }
            return false;
        }
    }
}
