import java.io.File;
import java.nio.file.Files;
import java.nio.file.Path;
import java.util.regex.Matcher;
import java.util.regex.Pattern;

/** What README.md says is so: its run of calls answers what stands behind each, and it names every call and every test. */
public final class ReadmeTest {
    public static void main(String[] args) throws Exception {
        String readme = Files.readString(Path.of("README.md"));
        theRun(readme);
        everyCallIsNamed(readme);
        everyTestIsNamed(readme);
        Due.finish();
    }

    private static void theRun(String readme) throws Exception {
        Matcher block = Pattern.compile("(?s)```java\n(.*?)```").matcher(readme);
        Due.is("README.md has a run", block.find() ? 1 : 0, 1);
        String[] lines = block.group(1).split("\n");
        Due.is("the object is made first: " + lines[0], lines[0].equals("TwelveShort house = new TwelveShort();") ? 1 : 0, 1);
        TwelveShort house = new TwelveShort();
        for (int i = 1; i < lines.length; i++) {
            Matcher line = Pattern.compile("house\\.(\\w+)\\((.*?)\\); +// (-?\\d+|[A-Z]+)(: .*)?").matcher(lines[i]);
            boolean right = line.matches();
            Due.is("a call and its answer: " + lines[i], right ? 1 : 0, 1);
            if (right) {
                Due.is(line.group(1) + "(" + line.group(2) + ")", answer(house, line.group(1), line.group(2)), number(line.group(3)));
            }
        }
    }

    private static int answer(TwelveShort house, String name, String list) {
        String[] words = list.isEmpty() ? new String[0] : list.split(", ");
        int[] a = new int[words.length];
        for (int i = 0; i < a.length; i++) {
            a[i] = Integer.decode(words[i]);
        }
        int which = 0;
        while (which < Both.NAMES.length - 1 && !Both.NAMES[which].equals(name)) {
            which++;
        }
        Due.is("how many numbers " + name + " takes", a.length, Both.TAKES[which]);
        return Both.on(house, which, a);
    }

    /** A number, or a constant of the class. */
    private static int number(String word) throws Exception {
        return word.matches("[A-Z]+") ? TwelveShort.class.getField(word).getInt(null) : Integer.parseInt(word);
    }

    private static void everyCallIsNamed(String readme) {
        for (String name : Both.NAMES) {
            Due.is("README.md names " + name, readme.contains("`" + name + "`") ? 1 : 0, 1);
        }
        for (String name : new String[] {"BAD", "NO", "FULL", "NONE", "NOTHING", "KIND", "INDEX", "SIZE"}) {
            Due.is("README.md names " + name, readme.contains("`" + name + "`") ? 1 : 0, 1);
        }
    }

    private static void everyTestIsNamed(String readme) {
        String[] files = new File("src/test/java").list();
        for (String file : files == null ? new String[0] : files) {
            String name = file.replace(".java", "");
            Due.is("README.md names " + name, readme.contains("`" + name + "`") ? 1 : 0, 1);
        }
        Matcher names = Pattern.compile("`(\\w+Test)`").matcher(readme);
        while (names.find()) {
            Due.is("there is " + names.group(1), new File("src/test/java/" + names.group(1) + ".java").isFile() ? 1 : 0, 1);
        }
    }
}
