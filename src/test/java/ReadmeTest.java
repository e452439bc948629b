import java.io.ByteArrayOutputStream;
import java.io.IOException;
import java.io.PrintStream;
import java.nio.file.Files;
import java.nio.file.Path;

/** README.md shows Example.java as it is, and what it prints. */
public final class ReadmeTest {
    private static int wrong = 0;

    private static void check(String what, boolean holds) {
        if (!holds) {
            wrong++;
            System.out.println("README.md: " + what);
        }
    }

    /** The first block of a kind; null if there is none. */
    private static String block(String readme, String kind) {
        String open = "```" + kind + "\n";
        int from = readme.indexOf(open);
        int to = from < 0 ? -1 : readme.indexOf("```\n", from + open.length());
        return to < 0 ? null : readme.substring(from + open.length(), to);
    }

    private static String printed() {
        PrintStream before = System.out;
        ByteArrayOutputStream bytes = new ByteArrayOutputStream();
        System.setOut(new PrintStream(bytes, true));
        try {
            Example.main(new String[0]);
        } finally {
            System.out.flush();
            System.setOut(before);
        }
        return bytes.toString().replace("\r\n", "\n");
    }

    private static void checkFace(String readme) {
        for (java.lang.reflect.Method m : FamilyReducer.class.getDeclaredMethods()) {
            if (java.lang.reflect.Modifier.isPublic(m.getModifiers())) {
                check("no word of " + m.getName(), readme.contains("`" + m.getName() + "`"));
            }
        }
    }

    public static void main(String[] args) throws IOException {
        String readme = Files.readString(Path.of("README.md"));
        String example = Files.readString(Path.of("src/test/java/Example.java"));
        String shown = block(readme, "java");
        check("the example is not Example.java", shown != null && example.endsWith(shown)
            && shown.contains("public static void main"));
        check("the example prints\n" + printed(), printed().equals(block(readme, "text")));
        checkFace(readme);
        System.out.println(wrong == 0 ? "README.md shows what is" : "wrong: " + wrong);
        if (wrong > 0) {
            System.exit(1);
        }
    }
}
