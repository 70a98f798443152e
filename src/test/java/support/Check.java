import java.util.concurrent.Callable;

/** What the tests share: texts fed, answers compared, and how many were wrong. */
final class Check {
    private static int wrong = 0;
    private static int asked = 0;
    private static String sentence = "";

    private Check() {
    }

    /** The document's words that the answers from now on are asked for. */
    static void sentence(String words) {
        sentence = words + ": ";
    }

    static void due(String what, Object got, Object want) {
        asked++;
        if (!String.valueOf(got).equals(String.valueOf(want))) {
            wrong++;
            if (wrong <= 40) {
                System.out.println(sentence + what + " answered " + got + ", due is " + want);
            }
        }
    }

    /** The answer of a call as a text; throws.Name if it throws. */
    static String answer(Callable<Object> call) {
        try {
            return String.valueOf(call.call());
        } catch (Exception e) {
            return "throws." + e.getClass().getSimpleName();
        }
    }

    static void ask(String what, Callable<Object> call, Object want) {
        due(what, answer(call), want);
    }

    static int wrong() {
        return wrong;
    }

    static void finish(String name) {
        System.out.println(name + ": " + asked + " answers, " + wrong + " wrong");
        if (wrong != 0) {
            System.exit(1);
        }
    }

    /** Puts a text of at most 400 bytes on the empty tape. */
    static void text(SumRewriter x, String text) {
        for (int at = 0; at < text.length(); at += 20) {
            x.feed(word(text, at), word(text, at + 4), word(text, at + 8), word(text, at + 12), word(text, at + 16));
        }
        x.end(text.length());
    }

    private static int word(String text, int at) {
        int word = 0;
        for (int i = at; i < at + 4; i++) {
            word = word << 8 | (i < text.length() ? text.charAt(i) & 255 : 0);
        }
        return word;
    }

    static String signature(SumRewriter x, String text) {
        text(x, text);
        return answer(x::signature);
    }

    static String term(SumRewriter x, String text) {
        text(x, text);
        return answer(x::term);
    }

    static String rule(SumRewriter x, String text) {
        text(x, text);
        return answer(x::rule);
    }

    /** The bytes that are shown, as a text. */
    static String shown(SumRewriter x) {
        StringBuilder text = new StringBuilder();
        for (int k = 0; x.octet(k) >= 0; k++) {
            text.append((char) x.octet(k));
        }
        return text.toString();
    }

    /** What a call shows; throws.Name if it throws; and the bytes told must be those shown. */
    static String show(SumRewriter x, Callable<Object> call) {
        String got = answer(call);
        if (got.startsWith("throws.")) {
            return got;
        }
        String text = shown(x);
        return got.equals(String.valueOf(text.length())) ? text : text + " told as " + got;
    }
}
