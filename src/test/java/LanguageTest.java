import java.lang.reflect.Constructor;
import java.lang.reflect.Field;
import java.lang.reflect.Method;
import java.lang.reflect.Modifier;
import java.nio.charset.StandardCharsets;
import java.nio.file.Files;
import java.nio.file.Path;
import java.util.ArrayList;
import java.util.List;
import java.util.Set;
import java.util.TreeSet;
import java.util.regex.Matcher;
import java.util.regex.Pattern;

/** Those rules of LANGUAGE.md that a look at the file and at the class can tell. */
public final class LanguageTest {
    private static final Set<String> FACE = new TreeSet<>(Set.of("status", "feed", "load", "fault", "many", "family",
        "equation", "meets", "compatible", "ends", "parts", "bad", "term", "now", "node", "why", "still", "step",
        "reduce", "would", "period", "print", "out", "want", "wanted", "unknown"));
    private static final String[] NEVER = {"\\bthrows?\\b", "\\btry\\b", "\\bcatch\\b", "\\bsynchronized\\b",
        "\\bassert\\b", "\\bpackage\\b", "\\bimport\\b", "->", "::", "\\bObject\\b", "\\bInteger\\b", "\\bStrings?\\b",
        "\\bfor \\(;;\\)", "while \\(true\\)", "\\bstatic \\{"};
    private static final Pattern PARAMETERS = Pattern.compile("\\w+\\(((?:int|boolean|Row|Told|Request|Reducer|Joiner)[^()]*)\\) \\{");

    private static int wrong = 0;

    private static void tell(String text) {
        wrong++;
        System.out.println(text);
    }

    public static void main(String[] args) throws Exception {
        String source = Files.readString(Path.of("src/main/java/FamilyReducer.java"), StandardCharsets.US_ASCII);
        lookAtSource(source.replaceAll("(?s)/\\*.*?\\*/", "").replaceAll("//[^\n]*", ""));
        lookAtFace();
        for (Class<?> c : FamilyReducer.class.getDeclaredClasses()) {
            lookAtInner(c);
        }
        if (FamilyReducer.class.getDeclaredClasses().length > 12) {
            tell("rule 11: too many classes");
        }
        System.out.println(wrong == 0 ? "the language is kept to" : wrong + " rules are broken");
        if (wrong != 0) {
            System.exit(1);
        }
    }

    private static void lookAtSource(String code) {
        for (String never : NEVER) {
            Matcher m = Pattern.compile(never).matcher(code);
            if (m.find()) {
                tell("not of the language: " + m.group());
            }
        }
        Matcher m = PARAMETERS.matcher(code);
        while (m.find()) {
            if (m.group(1).split(",").length > 7) {
                tell("rule 11: " + m.group());
            }
        }
        List<String> lines = List.of(code.split("\n"));
        int began = -1;
        for (int i = 0; i < lines.size(); i++) {
            String line = lines.get(i);
            if (line.matches("( {4}| {8})\\S.*\\) \\{") && !line.contains(" class ")) {
                began = i;
            } else if (line.matches("( {4}| {8})\\}") && began >= 0) {
                if (i - began > 60) {
                    tell("rule 11, a long method: " + lines.get(began).trim());
                }
                began = -1;
            }
        }
    }

    private static void lookAtFace() {
        Class<?> c = FamilyReducer.class;
        if (!Modifier.isFinal(c.getModifiers()) || !Modifier.isPublic(c.getModifiers())) {
            tell("rule 1: the class");
        }
        Set<String> open = new TreeSet<>();
        for (Method m : c.getDeclaredMethods()) {
            if (Modifier.isPublic(m.getModifiers())) {
                open.add(m.getName());
            } else if (!Modifier.isPrivate(m.getModifiers()) || FACE.contains(m.getName())) {
                tell("rule 1: " + m);
            }
        }
        if (!open.equals(FACE)) {
            tell("rule 1: the face is " + open);
        }
        for (Field f : c.getDeclaredFields()) {
            if (!Modifier.isPrivate(f.getModifiers()) && !f.getName().equals("NONE")) {
                tell("rule 1: " + f);
            }
        }
        for (Constructor<?> k : c.getDeclaredConstructors()) {
            if (k.getParameterCount() != 0) {
                tell("rule 1: " + k);
            }
        }
        lookAtFields(c);
    }

    private static void lookAtInner(Class<?> c) {
        int mods = c.getModifiers();
        if (!Modifier.isStatic(mods) || Modifier.isPublic(mods) || Modifier.isProtected(mods)) {
            tell("rule 1 or 2: " + c);
        }
        for (Method m : c.getDeclaredMethods()) {
            if (FACE.contains(m.getName())) {
                tell("rule 1, a name of the face: " + m);
            }
        }
        lookAtFields(c);
    }

    private static void lookAtFields(Class<?> c) {
        List<Field> own = new ArrayList<>();
        for (Field f : c.getDeclaredFields()) {
            if (!Modifier.isStatic(f.getModifiers())) {
                own.add(f);
            } else if (!Modifier.isFinal(f.getModifiers())) {
                tell("rule 5: " + f);
            }
        }
        if (own.size() > 20) {
            tell("rule 11: " + own.size() + " fields in " + c);
        }
    }
}
