import java.io.IOException;
import java.lang.reflect.Constructor;
import java.lang.reflect.Field;
import java.lang.reflect.Method;
import java.lang.reflect.Modifier;
import java.nio.file.Files;
import java.nio.file.Path;
import java.util.Set;
import java.util.TreeSet;
import java.util.regex.Matcher;
import java.util.regex.Pattern;

/** What of the rules of LANGUAGE.md a program can see: the face, and words that are not to be there. */
public final class LanguageTest {
    private static final Set<String> FACE = Set.of(
            "int sheet(int,int,int)", "int put(int,int,int)", "int copy(int,int,int,int,int)", "long told(int,int)",
            "int job(int,int,int)", "int after(int,int)", "int read(int,int,int,int)", "int free(int,int)",
            "int ring(int)", "int about(int,int)", "int undo()", "int least()", "int day(int,int)", "int idle(int)",
            "int pairs()", "int rest(int)", "int kept()", "int code(int)", "int check(long)", "int count(int)");
    private static final Set<String> CONSTANTS = Set.of("BAD", "FULL", "NONE", "RING");
    private static final Pattern REFUSED = Pattern.compile(
            "\\b(throw|throws|try|catch|finally|synchronized|assert|native|transient|volatile|var|default\\s*->|"
            + "\\w*Exact|MAX_VALUE|MIN_VALUE|Thread|System\\.(?!arraycopy)|Objects|Stream|Random|hashCode|toString)\\b|->|::");

    private static final Due due = new Due();

    public static void main(String[] args) throws IOException {
        checkFace();
        checkInside();
        checkWords(Files.readString(Path.of("src/main/java/TwoBenches.java")));
        due.end();
    }

    private static void checkFace() {
        Class<?> face = TwoBenches.class;
        due.holds("public and final", Modifier.isPublic(face.getModifiers()) && Modifier.isFinal(face.getModifiers()));
        Set<String> seen = new TreeSet<>();
        Set<String> publicNames = new TreeSet<>();
        Set<String> privateNames = new TreeSet<>();
        for (Method m : face.getDeclaredMethods()) {
            if (Modifier.isPrivate(m.getModifiers())) {
                privateNames.add(m.getName());
            } else {
                seen.add(signature(m));
                publicNames.add(m.getName());
                due.holds(m + " is public", Modifier.isPublic(m.getModifiers()));
            }
        }
        due.holds("the methods of the document alone: " + seen, seen.equals(new TreeSet<>(FACE)));
        privateNames.retainAll(publicNames);
        due.holds("no private method has a public name: " + privateNames, privateNames.isEmpty());
        for (Field f : face.getDeclaredFields()) {
            boolean constant = CONSTANTS.contains(f.getName());
            due.holds(f + " is as visible as it is to be", constant == Modifier.isPublic(f.getModifiers())
                    && constant != Modifier.isPrivate(f.getModifiers()));
        }
        Constructor<?>[] made = face.getDeclaredConstructors();
        due.is("constructors", made.length, 1);
        due.is("their parameters", made[0].getParameterCount(), 0);
        due.is("BAD", TwoBenches.BAD, -1);
        due.is("FULL", TwoBenches.FULL, -2);
        due.is("NONE", TwoBenches.NONE, -3);
        due.is("RING", TwoBenches.RING, -4);
    }

    private static String signature(Method m) {
        StringBuilder text = new StringBuilder(m.getReturnType() + " " + m.getName() + "(");
        for (Class<?> type : m.getParameterTypes()) {
            text.append(text.charAt(text.length() - 1) == '(' ? "" : ",").append(type);
        }
        return text.append(")").toString();
    }

    private static void checkInside() {
        Class<?>[] inside = TwoBenches.class.getDeclaredClasses();
        due.holds("twelve classes at most", inside.length < 12);
        for (Class<?> c : inside) {
            due.holds(c + " is static", Modifier.isStatic(c.getModifiers()));
            int own = 0;
            for (Field f : c.getDeclaredFields()) {
                boolean shared = Modifier.isStatic(f.getModifiers());
                due.holds(f + " is final if static", !shared || Modifier.isFinal(f.getModifiers()));
                own += shared ? 0 : 1;
            }
            due.holds(c + " has twenty fields at most", own <= 20);
            for (Method m : c.getDeclaredMethods()) {
                due.holds(m + " has seven parameters at most", m.getParameterCount() <= 7);
            }
        }
    }

    private static void checkWords(String text) {
        String code = text.replaceAll("(?s)/\\*.*?\\*/", "").replaceAll("//[^\n]*", "");
        Matcher word = REFUSED.matcher(code);
        while (word.find()) {
            due.holds("no " + word.group(), false);
        }
        Matcher line = Pattern.compile("(?m)^\\s*(import|package)\\s+(.*);").matcher(code);
        while (line.find()) {
            due.holds("no " + line.group(), line.group(2).matches("java\\.util\\.(Arrays|ArrayList|List|Iterator)"));
        }
    }
}
