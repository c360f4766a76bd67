import java.io.IOException;
import java.lang.reflect.Constructor;
import java.lang.reflect.Field;
import java.lang.reflect.Method;
import java.lang.reflect.Modifier;
import java.nio.file.Files;
import java.nio.file.Path;
import java.util.ArrayList;
import java.util.List;
import java.util.Set;
import java.util.TreeSet;
import java.util.regex.Matcher;
import java.util.regex.Pattern;

/** The class's face is the document's, and its source keeps to the words of LANGUAGE.md. */
public final class FaceTest {
    private static final Path SOURCE = Path.of("src/main/java/AssertionGate.java");

    private static final String FACE = "at(int):int clear():void consume():int cut(int,int):boolean digest(int):int"
        + " elements():int issue(int,int,int,int,int):boolean key(int,int,int):boolean leave(int,int):boolean"
        + " length():int name(int,int):int outstanding():int pass(int):boolean paste(int):boolean request(int):int"
        + " seal(int,int):int session(int):int set(int,char):boolean trust(int,int,int):boolean write(char):boolean";

    private static final String[] FORBIDDEN = {
        "\\bthrow\\b", "\\btry\\b", "\\bcatch\\b", "\\bsynchronized\\b", "\\bassert\\b", "\\bimport\\b", "\\bpackage\\b",
        "->", "::", "\" \\+", "\\+ \"", "Exact\\(", "\\bvar\\b", "\\bprotected\\b"};

    private static String describe(Method method) {
        StringBuilder all = new StringBuilder(method.getName() + "(");
        String gap = "";
        for (Class<?> parameter : method.getParameterTypes()) {
            all.append(gap).append(parameter.getName());
            gap = ",";
        }
        return all + "):" + method.getReturnType().getName();
    }

    private static void checkFace() {
        Set<String> open = new TreeSet<>();
        Set<String> openNames = new TreeSet<>();
        for (Method method : AssertionGate.class.getDeclaredMethods()) {
            if (Modifier.isPublic(method.getModifiers())) {
                open.add(describe(method));
                openNames.add(method.getName());
            }
        }
        Due.is("public methods", String.join(" ", open), FACE);
        for (Method method : AssertionGate.class.getDeclaredMethods()) {
            if (!Modifier.isPublic(method.getModifiers())) {
                Due.yes(method.getName() + " is private", Modifier.isPrivate(method.getModifiers()));
                Due.no(method.getName() + " bears a public name", openNames.contains(method.getName()));
            }
        }
        for (Field field : AssertionGate.class.getDeclaredFields()) {
            Due.yes(field.getName() + " is private", Modifier.isPrivate(field.getModifiers()));
        }
        Constructor<?>[] constructors = AssertionGate.class.getDeclaredConstructors();
        Due.is("constructors", constructors.length, 1);
        Due.yes("public constructor", Modifier.isPublic(constructors[0].getModifiers()));
        Due.yes("final class", Modifier.isFinal(AssertionGate.class.getModifiers()));
    }

    private static void checkClassesInside() {
        for (Class<?> inside : AssertionGate.class.getDeclaredClasses()) {
            Due.yes(inside.getName() + " is static", Modifier.isStatic(inside.getModifiers()));
            int fields = 0;
            for (Field field : inside.getDeclaredFields()) {
                boolean isStatic = Modifier.isStatic(field.getModifiers());
                fields += isStatic ? 0 : 1;
                Due.yes(field.getName() + " is no static state", !isStatic || Modifier.isFinal(field.getModifiers()));
            }
            Due.yes(inside.getName() + " has at most 20 fields", fields <= 20);
        }
        Due.yes("at most twelve classes", AssertionGate.class.getDeclaredClasses().length < 12);
    }

    private static void checkParameters() {
        List<Class<?>> all = new ArrayList<>(List.of(AssertionGate.class.getDeclaredClasses()));
        all.add(AssertionGate.class);
        for (Class<?> one : all) {
            for (Method method : one.getDeclaredMethods()) {
                Due.yes(method.getName() + " has at most 7 parameters", method.getParameterCount() <= 7);
            }
        }
    }

    /** A method ends with a brace as far in as its first line. */
    private static void checkLengths() throws IOException {
        List<String> lines = Files.readAllLines(SOURCE);
        for (int from = 0; from < lines.size(); from++) {
            String line = lines.get(from);
            String margin = line.substring(0, line.length() - line.stripLeading().length());
            boolean isMethod = line.matches(" {4,8}[a-zA-Z].*\\(.*\\) \\{") && !line.matches(" *(if|for|while|switch) .*");
            int to = from;
            while (isMethod && !lines.get(to).equals(margin + "}")) {
                to++;
            }
            Due.yes(line.strip() + " stays short", to - from < 60);
        }
    }

    /** What is called of a library class stands in rule 4. */
    private static void checkLibrary() throws IOException {
        Matcher call = Pattern.compile("\\b[A-Z][a-zA-Z]+\\.[a-z]\\w*\\(").matcher(Files.readString(SOURCE));
        while (call.find()) {
            Due.yes(call.group() + " is allowed", Set.of("Math.min(", "System.arraycopy(").contains(call.group()));
        }
    }

    private static void checkWords() throws IOException {
        String source = Files.readString(SOURCE);
        String code = source.replaceAll("(?s)/\\*.*?\\*/", "").replaceAll("//[^\n]*", "");
        for (String word : FORBIDDEN) {
            Due.no("source has " + word, Pattern.compile(word).matcher(code).find());
        }
        // Rows are made in constructors alone: the only 'new' stands in an assignment of a field.
        Due.no("source makes an object outside a field", Pattern.compile("(return|\\() *new ").matcher(code).find());
    }

    public static void main(String[] args) throws IOException {
        checkFace();
        checkClassesInside();
        checkParameters();
        checkLengths();
        checkLibrary();
        checkWords();
        Due.end();
    }
}
