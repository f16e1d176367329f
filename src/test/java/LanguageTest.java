import java.io.IOException;
import java.lang.reflect.Constructor;
import java.lang.reflect.Field;
import java.lang.reflect.Method;
import java.lang.reflect.Modifier;
import java.nio.file.Files;
import java.nio.file.Path;
import java.util.Arrays;
import java.util.List;
import java.util.Set;
import java.util.TreeSet;
import java.util.regex.Matcher;
import java.util.regex.Pattern;

/** The face of the document, and those rules of LANGUAGE.md that can be seen from the file or the class. */
public final class LanguageTest {
    private static final String[] FACE = {"int things(long)", "int feed(int)", "int wood()", "int told(int)",
        "int tree(int,int,int,int)", "int lean(int,int,int,int)", "int of(int,int)", "int plan(int,int,int)",
        "int goes(int,int)", "long lies(int)", "int fell(int)", "int wide(int,int)", "int least(int,int)",
        "int gusts(int)", "long sure(int,int,int)", "long stand(int)", "int order(int)", "int hung()",
        "int blame(int,int)", "int knock(int,int)", "int limbs(int)", "int book(int)", "int judged(int)",
        "int act(int,int,int)", "int trace(int)", "int as(int,int)", "int image()", "int undo()", "int count(int)"};
    private static final List<String> CONSTANTS = List.of("NONE", "BAD", "STATE", "FULL", "NO");

    public static void main(String[] args) throws IOException {
        face();
        constants();
        classesInside();
        words();
        methods();
        Due.end();
    }

    private static void face() {
        Set<String> found = new TreeSet<>(), hidden = new TreeSet<>(), names = new TreeSet<>();
        for (Method method : FellTree.class.getDeclaredMethods()) {
            if (Modifier.isPublic(method.getModifiers())) {
                String of = Arrays.toString(method.getParameterTypes()).replace(" ", "");
                found.add(method.getReturnType() + " " + method.getName() + "(" + of.substring(1, of.length() - 1) + ")");
                names.add(method.getName());
            } else {
                Due.holds("rule 1: " + method.getName() + " is private", Modifier.isPrivate(method.getModifiers()));
                hidden.add(method.getName());
            }
        }
        Due.is("rule 1: the methods " + found, found.equals(new TreeSet<>(Arrays.asList(FACE))) ? 1 : 0, 1);
        for (Class<?> inside : FellTree.class.getDeclaredClasses()) {
            for (Method method : inside.getDeclaredMethods()) {
                hidden.add(method.getName());
            }
        }
        hidden.retainAll(names);
        Due.is("rule 1: names of public methods used again: " + hidden, hidden.size(), 0);
        Constructor<?>[] made = FellTree.class.getDeclaredConstructors();
        Due.is("rule 1: constructors", made.length, 1);
        Due.holds("rule 1: the constructor is public", Modifier.isPublic(made[0].getModifiers()));
        Due.is("rule 1: the constructor's parameters", made[0].getParameterCount(), 0);
        int of = FellTree.class.getModifiers();
        Due.holds("rule 1: public and final", Modifier.isPublic(of) && Modifier.isFinal(of));
    }

    private static void constants() {
        int seen = 0;
        for (Field field : FellTree.class.getDeclaredFields()) {
            int of = field.getModifiers();
            if (CONSTANTS.contains(field.getName())) {
                seen++;
                Due.holds("rule 1: " + field, Modifier.isPublic(of) && Modifier.isStatic(of) && Modifier.isFinal(of));
            } else {
                Due.holds("rule 1: private: " + field, Modifier.isPrivate(of));
            }
        }
        Due.is("rule 1: constants", seen, CONSTANTS.size());
    }

    private static void classesInside() {
        Class<?>[] inside = FellTree.class.getDeclaredClasses();
        Due.holds("rule 11: some twelve classes", inside.length <= 11);
        for (Class<?> one : inside) {
            int of = one.getModifiers();
            Due.holds("rule 1: " + one, Modifier.isStatic(of) && !Modifier.isPublic(of) && !Modifier.isProtected(of));
            int fields = 0;
            for (Field field : one.getDeclaredFields()) {
                if (Modifier.isStatic(field.getModifiers())) {
                    Due.holds("rule 5: " + field, Modifier.isFinal(field.getModifiers()));
                } else {
                    fields++;
                }
            }
            Due.holds("rule 11: some twenty fields in " + one, fields <= 20);
            for (Method method : one.getDeclaredMethods()) {
                Due.holds("rule 11: seven parameters, " + method, method.getParameterCount() <= 7);
            }
        }
    }

    private static String source() throws IOException {
        String text = Files.readString(Path.of("src/main/java/FellTree.java"));
        return text.replaceAll("(?s)/\\*.*?\\*/", "").replaceAll("//[^\n]*", "");
    }

    private static void words() throws IOException {
        String text = source();
        String[] out = {"\\bthrows?\\b", "\\btry\\b", "\\bcatch\\b", "\\bfinally\\b", "\\bsynchronized\\b", "\\bassert\\b",
            "\\bimport\\b", "\\bpackage\\b", "->", "::", "\\w+Exact\\b", "\\bstatic\\s*\\{", "\\bObject\\b",
            "\\bequals\\b", "\\bhashCode\\b", "\\btoString\\b", "\\bprotected\\b", "\\bvar\\b", "\\bThread\\b", "\\bRandom\\b",
            "System\\.(?!arraycopy\\b)", "\\[\\]\\[\\]\\[\\]", "@"};
        for (String word : out) {
            Matcher found = Pattern.compile(word).matcher(text);
            Due.holds("no " + word + " in the class", !found.find());
        }
        for (int i = 0; i < text.length(); i++) {
            char c = text.charAt(i);
            Due.holds("plain signs alone", c == '\n' || c >= 32 && c < 127);
        }
    }

    /** A method begins with a line of 4 or 8 blanks that ends with {, and ends with a } as far in. */
    private static void methods() throws IOException {
        String[] lines = source().split("\n");
        Pattern begins = Pattern.compile("^( {4}| {8})(?!if|for|while|switch)[a-zA-Z].*?(\\w+)\\(.*\\) \\{$");
        for (int i = 0; i < lines.length; i++) {
            Matcher method = begins.matcher(lines[i]);
            if (method.find()) {
                int end = i;
                while (end < lines.length && !lines[end].equals(method.group(1) + "}")) {
                    end++;
                }
                Due.holds("rule 11: short, " + lines[i].trim(), end - i <= 60);
                String body = String.join("\n", Arrays.copyOfRange(lines, i + 1, end));
                boolean callsItself = Pattern.compile("(?<![.\\w])" + method.group(2) + "\\(").matcher(body).find();
                Due.holds("rule 8: private, " + lines[i].trim(), !callsItself || lines[i].contains(" private "));
            }
        }
    }
}
