import java.lang.reflect.Field;
import java.lang.reflect.Method;
import java.lang.reflect.Modifier;
import java.nio.file.Files;
import java.nio.file.Path;
import java.util.ArrayList;
import java.util.List;
import java.util.Set;
import java.util.regex.Matcher;
import java.util.regex.Pattern;

/** The rules of LANGUAGE.md, by their numbers, as far as a look at the file and at the classes can tell. */
public final class LanguageTest {
    private static final Set<String> OWN = Set.of("TwelveShort", "Guest", "House", "Law", "Tape", "Reader", "Row", "Slot");
    private static final Set<String> LIBRARY = Set.of("String", "Math", "Integer", "System");
    private static final Set<String> FUNCTIONS = Set.of("Math.max", "Math.min", "Math.abs", "Integer.bitCount", "System.arraycopy");
    private static final Set<String> OF_STRINGS = Set.of("length", "charAt", "isEmpty", "indexOf", "substring", "toCharArray");
    private static final int MOST_LINES = 60, MOST_CLASSES = 12, MOST_FIELDS = 20, MOST_PARAMETERS = 7;

    /** The file without comments, and with nothing in its texts and signs. */
    private static String code;

    public static void main(String[] args) throws Exception {
        String file = Files.readString(Path.of("src/main/java/TwelveShort.java"));
        code = file.replaceAll("(?s)/\\*.*?\\*/", "").replaceAll("//[^\n]*", "");
        code = code.replaceAll("\"[^\"\n]*\"", "\"\"").replaceAll("'[^']'", "''");
        rule2classesInside();
        rule3types();
        rule4library(file);
        rule5staticFields();
        rule6wordsLeftOut();
        rule9loops();
        rule10joiningByPlus();
        rule11sizes();
        rule12objectsAreMadeWithTheObject();
        Due.finish();
    }

    private static List<Class<?>> classes() {
        List<Class<?>> all = new ArrayList<>(List.of(TwelveShort.class));
        all.addAll(List.of(TwelveShort.class.getDeclaredClasses()));
        return all;
    }

    private static void none(String rule, String pattern) {
        Matcher found = Pattern.compile(pattern).matcher(code);
        while (found.find()) {
            Due.is(rule + ": " + found.group().strip(), 1, 0);
        }
    }

    private static void rule2classesInside() {
        Due.is("2: the classes are those that are known here", classes().size(), OWN.size());
        for (Class<?> c : classes()) {
            Due.is("2: known: " + c.getSimpleName(), OWN.contains(c.getSimpleName()) ? 1 : 0, 1);
            Due.is("2: classes inside " + c.getSimpleName(), c == TwelveShort.class ? 0 : c.getDeclaredClasses().length, 0);
        }
        none("2: a lambda or a method reference", "->|::");
        none("2: an anonymous class", "new \\w+\\([^()]*\\) *\\{");
        none("2: a local class", "(?m)^ {8,}(final )?(class|record|enum|interface) \\w+");
    }

    private static void rule3types() {
        for (Class<?> c : classes()) {
            for (Field f : c.getDeclaredFields()) {
                Class<?> type = f.getType().isArray() ? f.getType().getComponentType() : f.getType();
                boolean known = type == int.class || type == boolean.class || OWN.contains(type.getSimpleName());
                Due.is("3: the type of " + f.getName(), known ? 1 : 0, 1);
            }
        }
        none("3: a type that is not used here", "\\b(double|float|Object|Double|Float|Long|Character)\\b");
    }

    private static void rule4library(String file) {
        Matcher names = Pattern.compile("\\b[A-Z]\\w*[a-z]\\w*\\b").matcher(code);
        while (names.find()) {
            boolean known = OWN.contains(names.group()) || LIBRARY.contains(names.group());
            Due.is("4: the name " + names.group(), known ? 1 : 0, 1);
        }
        Matcher calls = Pattern.compile("\\b(Math|Integer|System|String)\\.(\\w+)").matcher(code);
        while (calls.find()) {
            Due.is("4: " + calls.group(), FUNCTIONS.contains(calls.group()) ? 1 : 0, 1);
        }
        Matcher ofStrings = Pattern.compile("\\b(word|letters)\\.(\\w+)").matcher(code);
        while (ofStrings.find()) {
            Due.is("4: " + ofStrings.group(), OF_STRINGS.contains(ofStrings.group(2)) ? 1 : 0, 1);
        }
        none("4: an import or a package", "\\b(import|package)\\b");
        Due.is("4: signs beyond 127", (int) file.chars().filter(sign -> sign > 127).count(), 0);
    }

    private static void rule5staticFields() {
        for (Class<?> c : classes()) {
            for (Field f : c.getDeclaredFields()) {
                if (Modifier.isStatic(f.getModifiers())) {
                    Due.is("5: final: " + f.getName(), Modifier.isFinal(f.getModifiers()) ? 1 : 0, 1);
                    boolean known = f.getType() == int.class || f.getType() == int[].class;
                    Due.is("5: the type of " + f.getName(), known ? 1 : 0, 1);
                }
            }
        }
        none("5: a row that is changed", "\\bUNDER\\[[^\\]]*\\] *(=[^=]|\\+\\+|--|[-+*/]=)");
        none("5: a static block", "static *\\{");
    }

    private static void rule6wordsLeftOut() {
        none("6: a word", "\\b(throw|throws|try|catch|finally|synchronized|assert|instanceof|equals|hashCode|toString)\\b");
    }

    /** Loops by a counter, or the two that go over THE TAPE up to its size. */
    private static void rule9loops() {
        Matcher heads = Pattern.compile("\\b(while|for|do)\\b *(\\([^;{]*;[^;{]*;[^;{]*\\)|\\([^{]*\\)) *\\{").matcher(code);
        int found = 0;
        while (heads.find()) {
            found++;
            String bound = heads.group(1).equals("while") ? "\\((start|stop) < size &&.*" : "\\(int \\w+ = [^;]+; \\w+ (<|<=|>=) [^;]+; \\w+(\\+\\+| -= 8)\\)";
            Due.is("9: the end of " + heads.group(), heads.group(2).matches(bound) ? 1 : 0, 1);
        }
        int words = 0;
        Matcher loops = Pattern.compile("\\b(while|for|do)\\b").matcher(code);
        while (loops.find()) {
            words++;
        }
        Due.is("9: loops that were looked at", found, words);
    }

    private static void rule10joiningByPlus() {
        none("10: texts joined by +", "\"\" *\\+|\\+ *\"\"");
        none("10: a float or a long by its sign", "\\b\\d[\\d_]*[fFdDlL]\\b");
    }

    private static void rule11sizes() {
        Due.is("11: classes", classes().size() <= MOST_CLASSES ? 1 : 0, 1);
        for (Class<?> c : classes()) {
            int fields = 0;
            for (Field f : c.getDeclaredFields()) {
                fields += Modifier.isStatic(f.getModifiers()) ? 0 : 1;
            }
            Due.is("11: fields of " + c.getSimpleName(), fields <= MOST_FIELDS ? 1 : 0, 1);
            for (Method m : c.getDeclaredMethods()) {
                Due.is("11: parameters of " + m.getName(), m.getParameterCount() <= MOST_PARAMETERS ? 1 : 0, 1);
            }
        }
        for (String body : bodies()) {
            Due.is("11: lines of " + body.lines().findFirst().orElse(""), body.lines().count() <= MOST_LINES ? 1 : 0, 1);
        }
    }

    /** Methods and constructors, whose heads stand 4 or 8 blanks in and whose last line as far. */
    private static List<String> bodies() {
        List<String> all = new ArrayList<>();
        Matcher methods = Pattern.compile("(?ms)^(    |        )(?! )(?!.{0,40}\\bclass\\b)[^\n=;]*\\([^\n;]*\\) \\{\n.*?^\\1\\}$").matcher(code);
        while (methods.find()) {
            all.add(methods.group().strip());
        }
        return all;
    }

    /** So that no call makes one, and the room that a run takes is known. */
    private static void rule12objectsAreMadeWithTheObject() {
        int found = 0;
        for (String body : bodies()) {
            found++;
            boolean constructor = body.startsWith("public TwelveShort(") || body.startsWith("House(");
            Due.is("12: new in " + body.lines().findFirst().orElse(""), !constructor && body.matches("(?s).*\\bnew\\b.*") ? 1 : 0, 0);
        }
        int methods = 2;
        for (Class<?> c : classes()) {
            methods += c.getDeclaredMethods().length;
        }
        Due.is("12: methods and the two constructors that were looked at", found, methods);
    }
}
