import java.lang.reflect.Member;
import java.lang.reflect.Method;
import java.lang.reflect.Modifier;
import java.nio.file.Files;
import java.nio.file.Path;
import java.util.Arrays;
import java.util.Set;
import java.util.TreeSet;

/** The face of the document, and nothing beside it. */
public final class FaceTest {
    private static final Object[][] FACE = {
        {"person", 4}, {"told", 2}, {"as", 2}, {"turns", 2}, {"set", 3}, {"rule", 2}, {"deal", 1}, {"seed", 1},
        {"fewest", 2}, {"sits", 1}, {"evenings", 1}, {"house", 1}, {"behind", 2}, {"meets", 2}, {"door", 2},
        {"never", 2}, {"becomes", 3}, {"like", 2}, {"fee", 0}, {"fine", 1}, {"feed", 3}, {"trim", 1}, {"text", 0},
        {"textTold", 2}, {"why", 1}, {"sheet", 3}, {"mark", 3}, {"pour", 1}, {"reads", 1}, {"copy", 5}, {"lay", 3},
        {"ask", 2}, {"item", 2}, {"rest", 2}, {"tell", 1}, {"check", 1}, {"keep", 0}, {"back", 0}, {"count", 1},
    };

    public static void main(String[] args) throws Exception {
        methods();
        constants();
        nested();
        signatures();
        Due.finish();
    }

    private static void methods() throws Exception {
        Class<?> c = TwelveShort.class;
        Due.is("public final", c.getModifiers() & (Modifier.PUBLIC | Modifier.FINAL), Modifier.PUBLIC | Modifier.FINAL);
        Set<String> names = new TreeSet<>();
        for (Object[] row : FACE) {
            Class<?>[] types = new Class<?>[(Integer) row[1]];
            Arrays.fill(types, int.class);
            Method m = c.getDeclaredMethod((String) row[0], types);
            Due.is(row[0] + " is public", m.getModifiers(), Modifier.PUBLIC);
            Due.is(row[0] + " answers an int", m.getReturnType() == int.class ? 1 : 0, 1);
            names.add((String) row[0]);
        }
        int open = 0;
        for (Method m : c.getDeclaredMethods()) {
            open += Modifier.isPrivate(m.getModifiers()) ? 0 : 1;
            boolean twice = Modifier.isPrivate(m.getModifiers()) && names.contains(m.getName());
            Due.is("private " + m.getName() + " bears a public name", twice ? 1 : 0, 0);
        }
        Due.is("methods that are not private", open, FACE.length);
        Due.is("constructors", c.getDeclaredConstructors().length, 1);
        Due.is("public constructor", c.getDeclaredConstructor().getModifiers(), Modifier.PUBLIC);
    }

    private static void constants() throws Exception {
        String[] names = {"BAD", "NO", "FULL", "NONE", "NOTHING", "KIND", "INDEX", "SIZE"};
        int[] values = {-1000000001, -1000000002, -1000000003, -1000000005, -1000000011, -1000000012, -1000000013, -1000000014};
        for (int i = 0; i < names.length; i++) {
            Due.is(names[i], TwelveShort.class.getField(names[i]).getInt(null), values[i]);
        }
        int open = 0;
        for (Member f : TwelveShort.class.getDeclaredFields()) {
            open += Modifier.isPrivate(f.getModifiers()) ? 0 : 1;
        }
        Due.is("fields that are not private", open, names.length);
    }

    private static void nested() {
        Set<String> names = new TreeSet<>();
        for (Object[] row : FACE) {
            names.add((String) row[0]);
        }
        for (Class<?> c : TwelveShort.class.getDeclaredClasses()) {
            int seen = c.getModifiers() & (Modifier.PUBLIC | Modifier.PROTECTED);
            Due.is(c.getSimpleName() + " is public or protected", seen, 0);
            Due.is(c.getSimpleName() + " is static", Modifier.isStatic(c.getModifiers()) ? 1 : 0, 1);
            for (Method m : c.getDeclaredMethods()) {
                Due.is(c.getSimpleName() + "." + m.getName() + " bears a public name", names.contains(m.getName()) ? 1 : 0, 0);
                Due.is(m.getName() + " has parameters above seven", m.getParameterCount() > 7 ? 1 : 0, 0);
            }
        }
    }

    /** As the document writes them, in its order, with what it says ahead of each group. */
    private static void signatures() throws Exception {
        String code = Files.readString(Path.of("src/main/java/TwelveShort.java"));
        String[] rows = {
            "public TwelveShort() {", "// ---- people", "public int person(int kind, int odds, int steps, int wit) {",
            "public int told(int person, int what) {", "public int as(int person, int kind) {",
            "public int turns(int person, int kind) {", "public int set(int person, int what, int v) {",
            "public int rule(int what, int v) {", "public int deal(int n) {", "public int seed(int v) {",
            "public int fewest(int v, int what) {", "// ---- evenings", "public int sits(int set) {",
            "public int evenings(int n) {", "public int house(int what) {", "// ---- what will be",
            "public int behind(int n, int what) {", "public int meets(int person, int other) {",
            "public int door(int n, int what) {", "public int never(int n, int what) {",
            "public int becomes(int person, int n, int what) {", "public int like(int sheet, int what) {",
            "public int fee() {", "public int fine(int person) {", "// ---- texts",
            "public int feed(int a, int b, int c) {", "public int trim(int n) {", "public int text() {",
            "public int textTold(int text, int what) {", "public int why(int key) {", "// ---- sheets, slots",
            "public int sheet(int sheet, int sort, int n) {", "public int mark(int sheet, int place, int v) {",
            "public int pour(int sheet) {", "public int reads(int sheet) {",
            "public int copy(int from, int place, int to, int at, int many) {",
            "public int lay(int slot, int thing, int k) {", "public int ask(int slot, int kind) {",
            "public int item(int slot, int place) {", "public int rest(int slot, int n) {", "// ---- rows, images",
            "public int tell(int v) {", "public int check(int n) {", "public int keep() {", "public int back() {",
            "public int count(int what) {",
        };
        int from = 0;
        for (String row : rows) {
            int at = code.indexOf("\n    " + row + "\n", from);
            Due.is("in its order: " + row, at >= 0 ? 1 : 0, 1);
            from = Math.max(at, from);
        }
    }
}
