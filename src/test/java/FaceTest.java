import java.io.IOException;
import java.lang.reflect.Constructor;
import java.lang.reflect.Field;
import java.lang.reflect.Member;
import java.lang.reflect.Method;
import java.lang.reflect.Modifier;
import java.nio.file.Files;
import java.nio.file.Path;
import java.util.TreeSet;
import java.util.regex.Matcher;
import java.util.regex.Pattern;

/** The public face of the document, and those rules of LANGUAGE.md that a plain look can find broken. */
public final class FaceTest {
    private static final String[] FACE = {
        "begin(2)", "check(0)", "count(1)", "crash(1)", "delay(2)", "latest(1)", "link(3)", "of(2)",
        "part(2)", "patience(1)", "quorums(2)", "recover(1)", "reset(0)", "run(1)", "site(1)",
        "step(0)", "weight(1)"};
    private static final String FORBIDDEN =
        "\\b(throw|try|catch|synchronized|assert|import|double|float|Thread|System|Random)\\b|->|::";

    public static void main(String[] args) throws IOException {
        Runs runs = new Runs("FaceTest");
        Class<?> face = CommitSites.class;
        runs.due("public and final", face.getModifiers() & (Modifier.PUBLIC | Modifier.FINAL),
                Modifier.PUBLIC | Modifier.FINAL);
        runs.due("NONE", CommitSites.NONE, -1);
        runs.due("the methods are the document's", methods(face).equals(wanted()) ? 1 : 0, 1);
        runs.due("fields but NONE are private", openFields(face), 1);
        runs.due("one public constructor without parameters", openConstructors(face), 1);
        runs.due("no private method bears the name of a public one", sharedNames(face), 0);
        runs.due("words outside the language", forbiddenWords(), 0);
        runs.end();
    }

    private static TreeSet<String> wanted() {
        return new TreeSet<>(java.util.List.of(FACE));
    }

    private static boolean isOpen(Member member) {
        return !Modifier.isPrivate(member.getModifiers()) && !member.isSynthetic();
    }

    private static TreeSet<String> methods(Class<?> face) {
        TreeSet<String> found = new TreeSet<>();
        for (Method m : face.getDeclaredMethods()) {
            if (isOpen(m)) {
                boolean asDue = Modifier.isPublic(m.getModifiers()) && m.getReturnType() == int.class
                        && !Modifier.isStatic(m.getModifiers());
                found.add(m.getName() + "(" + m.getParameterCount() + ")" + (asDue ? "" : " with other modifiers"));
            }
        }
        return found;
    }

    private static int openFields(Class<?> face) {
        int open = 0;
        for (Field f : face.getDeclaredFields()) {
            open += isOpen(f) ? 1 : 0;
        }
        return open;
    }

    private static int openConstructors(Class<?> face) {
        int open = 0;
        for (Constructor<?> c : face.getDeclaredConstructors()) {
            boolean asDue = Modifier.isPublic(c.getModifiers()) && c.getParameterCount() == 0;
            open += asDue ? 1 : isOpen(c) ? 100 : 0;
        }
        return open;
    }

    private static int sharedNames(Class<?> face) {
        int shared = 0;
        for (Method m : face.getDeclaredMethods()) {
            for (String open : FACE) {
                boolean same = open.substring(0, open.indexOf('(')).equals(m.getName());
                shared += same && !isOpen(m) ? 1 : 0;
            }
        }
        return shared;
    }

    private static int forbiddenWords() throws IOException {
        String text = Files.readString(Path.of("src/main/java/CommitSites.java"));
        String code = text.replaceAll("(?s)/\\*.*?\\*/", "").replaceAll("//[^\n]*", "");
        Matcher matcher = Pattern.compile(FORBIDDEN).matcher(code);
        int found = 0;
        while (matcher.find()) {
            System.out.println("outside the language: " + matcher.group());
            found++;
        }
        return found;
    }
}
