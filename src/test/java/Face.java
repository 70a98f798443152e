import java.io.IOException;
import java.lang.reflect.Field;
import java.lang.reflect.Method;
import java.lang.reflect.Modifier;
import java.nio.file.Files;
import java.nio.file.Path;
import java.util.Arrays;
import java.util.Set;
import java.util.TreeSet;

/** The public face is the document's, and what LANGUAGE.md says of members and words holds. */
public final class Face {
    private static final String[] METHODS = {
        "about(int,int)int IndexOutOfBoundsException NoSuchElementException",
        "atTop(int,int)int IllegalStateException IndexOutOfBoundsException",
        "bound(int,int,int,int)int IllegalStateException IndexOutOfBoundsException NoSuchElementException",
        "count(int)int",
        "end(int)boolean",
        "fault()int",
        "feed(int,int,int,int,int)int",
        "fill(int,int,int)int IllegalStateException IndexOutOfBoundsException",
        "join(int,int,int)int IllegalArgumentException IllegalStateException IndexOutOfBoundsException",
        "keep()int IllegalStateException",
        "matches(int,int)int IllegalStateException IndexOutOfBoundsException",
        "meet(int,int,int)int IllegalArgumentException IllegalStateException IndexOutOfBoundsException",
        "octet(int)int",
        "operator(int,int)int IndexOutOfBoundsException NoSuchElementException",
        "order(int,int)int IndexOutOfBoundsException",
        "place(int,int)int IndexOutOfBoundsException NoSuchElementException",
        "rank(int)int",
        "reach(int,int,boolean)int IllegalArgumentException IllegalStateException IndexOutOfBoundsException",
        "reached(int,int,boolean,int)int IllegalArgumentException IllegalStateException IndexOutOfBoundsException NoSuchElementException",
        "rule()int IllegalArgumentException IllegalStateException",
        "show(int)int IndexOutOfBoundsException",
        "side(int,boolean)int IndexOutOfBoundsException",
        "signature()int IllegalArgumentException",
        "step(int,int)int IllegalStateException IndexOutOfBoundsException NoSuchElementException",
        "stepAt(int,int,int)int IllegalStateException IndexOutOfBoundsException NoSuchElementException",
        "steps(int)int IllegalStateException IndexOutOfBoundsException",
        "term()int IllegalArgumentException IllegalStateException",
        "turn(int,boolean)boolean IndexOutOfBoundsException",
        "walk(int)int IllegalStateException IndexOutOfBoundsException",
    };

    private Face() {
    }

    public static void main(String[] args) throws IOException {
        Class<?> outer = SumRewriter.class;
        Check.due("public and final", outer.getModifiers(), Modifier.PUBLIC | Modifier.FINAL);
        Set<String> names = new TreeSet<>();
        Set<String> faces = new TreeSet<>();
        for (Method m : outer.getDeclaredMethods()) {
            if (Modifier.isPublic(m.getModifiers())) {
                names.add(m.getName());
                faces.add(spell(m));
            } else {
                Check.due(m + " is private", Modifier.isPrivate(m.getModifiers()), true);
            }
        }
        Check.due("methods", faces, new TreeSet<>(Arrays.asList(METHODS)));
        Check.due("constructors", Arrays.toString(outer.getConstructors()), "[public SumRewriter()]");
        Check.due("all constructors", outer.getDeclaredConstructors().length, 1);
        checkFields(outer);
        checkNames(outer, names);
        for (Class<?> inner : outer.getDeclaredClasses()) {
            Check.due(inner + " is static", Modifier.isStatic(inner.getModifiers()), true);
            Check.due(inner + " is hidden", Modifier.isPublic(inner.getModifiers()) || Modifier.isProtected(inner.getModifiers()), false);
            checkNames(inner, names);
            checkFields(inner);
        }
        checkWords();
        Check.finish("Face");
    }

    private static String spell(Method m) {
        StringBuilder text = new StringBuilder(m.getName()).append('(');
        for (Class<?> p : m.getParameterTypes()) {
            text.append(text.charAt(text.length() - 1) == '(' ? "" : ",").append(p.getSimpleName());
        }
        text.append(')').append(m.getReturnType().getSimpleName());
        Set<String> thrown = new TreeSet<>();
        for (Class<?> e : m.getExceptionTypes()) {
            thrown.add(e.getSimpleName());
        }
        for (String e : thrown) {
            text.append(' ').append(e);
        }
        return text.toString();
    }

    private static void checkFields(Class<?> owner) {
        int own = 0;
        for (Field f : owner.getDeclaredFields()) {
            int m = f.getModifiers();
            if (owner == SumRewriter.class) {
                Check.due(f + " is seen", Modifier.isPublic(m), f.getName().equals("NONE"));
                Check.due(f + " is private", Modifier.isPrivate(m), !f.getName().equals("NONE"));
            }
            if (Modifier.isStatic(m)) {
                Check.due(f + " is final", Modifier.isFinal(m), true);
            } else {
                own++;
            }
        }
        Check.due(owner + " has some twenty fields at most (" + own + ")", own <= 20, true);
    }

    private static void checkNames(Class<?> owner, Set<String> names) {
        for (Method m : owner.getDeclaredMethods()) {
            boolean face = owner == SumRewriter.class && Modifier.isPublic(m.getModifiers());
            Check.due(m + " has a name of its own", !face && names.contains(m.getName()), false);
            Check.due(m + " has seven parameters at most", m.getParameterCount() <= 7, true);
        }
    }

    private static void checkWords() throws IOException {
        String source = Files.readString(Path.of("src/main/java/SumRewriter.java"));
        for (String word : new String[] {"catch", "try", "finally", "synchronized", "assert", "->", "::", "Exact(", "@", "package "}) {
            Check.due("the word " + word, source.contains(word), false);
        }
        for (String line : source.split("\n")) {
            if (line.startsWith("import ")) {
                Check.due("import", line, "import java.util.NoSuchElementException;");
            }
        }
    }
}
