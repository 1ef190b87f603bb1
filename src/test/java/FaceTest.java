import java.io.IOException;
import java.lang.reflect.Field;
import java.lang.reflect.Member;
import java.lang.reflect.Method;
import java.lang.reflect.Modifier;
import java.nio.file.Files;
import java.nio.file.Path;
import java.util.HashSet;
import java.util.List;
import java.util.Set;
import java.util.TreeSet;
import java.util.regex.Matcher;
import java.util.regex.Pattern;

/** Compares the face of the class with the document, and the class with rules of LANGUAGE.md. */
public final class FaceTest {
    private static final Path PROGRAM = Path.of("src/main/java/GiantStairs.java");
    private static final Path DOCUMENT = Path.of("../shared/DOC.md");
    private static final int MOST_FIELDS = 20;
    private static final int MOST_CLASSES = 12;
    private static final int MOST_LINES = 60;
    private static final int MOST_PARAMETERS = 7;

    private static int wrong = 0;

    public static void main(String[] args) throws IOException {
        String source = Files.readString(PROGRAM);
        methodsAreTheDocuments(Files.readString(DOCUMENT));
        nothingElseIsVisible();
        privateNamesAreOthers();
        classesAreSmall();
        methodsAreShort(source);
        wordsAreAllowed(source);
        System.out.println(wrong == 0 ? "the face is as due" : wrong + " rules are broken");
        if (wrong != 0) {
            System.exit(1);
        }
    }

    private static void due(boolean isKept, String rule) {
        if (!isKept) {
            wrong++;
            System.out.println(rule);
        }
    }

    private static void methodsAreTheDocuments(String document) {
        String face = document.substring(document.indexOf("```java"), document.indexOf("## Terms"));
        Matcher matcher = Pattern.compile("public (\\w+) (\\w+)\\((.*?)\\)(?: throws ([\\w, ]+))?;").matcher(face);
        Set<String> documented = new TreeSet<>();
        while (matcher.find()) {
            String types = matcher.group(3).replaceAll(" \\w+(,|$)", "$1");
            String thrown = matcher.group(4) == null ? "" : matcher.group(4);
            documented.add(matcher.group(1) + " " + matcher.group(2) + "(" + types + ") " + thrown);
        }
        Set<String> written = new TreeSet<>();
        for (Method method : GiantStairs.class.getDeclaredMethods()) {
            if (Modifier.isPublic(method.getModifiers())) {
                written.add(method.getReturnType() + " " + method.getName() + "(" + names(method.getParameterTypes())
                    + ") " + names(method.getExceptionTypes()));
            }
        }
        due(!documented.isEmpty() && documented.equals(written), "rule 1: " + written + " is not " + documented);
    }

    private static String names(Class<?>[] types) {
        StringBuilder names = new StringBuilder();
        for (Class<?> type : types) {
            names.append(names.length() == 0 ? "" : ", ").append(type.getSimpleName());
        }
        return names.toString();
    }

    private static void nothingElseIsVisible() {
        for (Field field : GiantStairs.class.getDeclaredFields()) {
            due(Modifier.isPrivate(field.getModifiers()), "rule 1: visible " + field);
        }
        for (Method method : GiantStairs.class.getDeclaredMethods()) {
            int modifiers = method.getModifiers();
            due(Modifier.isPublic(modifiers) || Modifier.isPrivate(modifiers), "rule 1: visible " + method);
        }
        due(GiantStairs.class.getDeclaredConstructors().length == 1, "rule 1: constructors");
        due(Modifier.isFinal(GiantStairs.class.getModifiers()), "rule 1: not final");
    }

    private static void privateNamesAreOthers() {
        Set<String> publicNames = new HashSet<>();
        for (Method method : GiantStairs.class.getMethods()) {
            if (method.getDeclaringClass() == GiantStairs.class) {
                publicNames.add(method.getName());
            }
        }
        for (Class<?> type : classes()) {
            for (Method method : type.getDeclaredMethods()) {
                boolean isOfFace = type == GiantStairs.class && Modifier.isPublic(method.getModifiers());
                due(isOfFace || !publicNames.contains(method.getName()), "rule 1: name of " + method);
            }
        }
    }

    private static List<Class<?>> classes() {
        List<Class<?>> classes = new java.util.ArrayList<>(List.of(GiantStairs.class.getDeclaredClasses()));
        classes.add(GiantStairs.class);
        return classes;
    }

    private static void classesAreSmall() {
        due(classes().size() <= MOST_CLASSES, "rule 11: classes");
        for (Class<?> type : classes()) {
            int fields = 0;
            for (Field field : type.getDeclaredFields()) {
                boolean isConstant = Modifier.isStatic(field.getModifiers());
                fields += isConstant ? 0 : 1;
                due(!isConstant || Modifier.isFinal(field.getModifiers()), "rule 5: " + field);
            }
            due(fields <= MOST_FIELDS, "rule 11: fields of " + type);
            due(type == GiantStairs.class || Modifier.isStatic(type.getModifiers()), "rule 1: " + type);
            for (Method method : type.getDeclaredMethods()) {
                due(method.getParameterCount() <= MOST_PARAMETERS, "rule 11: parameters of " + (Member) method);
            }
        }
    }

    private static void methodsAreShort(String source) {
        int start = 0;
        String[] lines = source.split("\n");
        for (int i = 0; i < lines.length; i++) {
            if (lines[i].matches(" {4}( {4})?\\w.*\\{") && !lines[i].contains(" class ")) {
                start = i;
            }
            if (lines[i].matches(" {4}( {4})?\\}")) {
                due(i - start < MOST_LINES, "rule 11: a long method before line " + (i + 1));
            }
        }
    }

    private static void wordsAreAllowed(String source) {
        String code = source.replaceAll("(?s)/\\*.*?\\*/", "").replaceAll("//.*", "").replaceAll("\"[^\"]*\"", "\"\"");
        String[] forbidden = {
            "->", "::", "\\bfinally\\b", "\\bcatch\\b", "\\bsynchronized\\b", "\\bassert\\b", "Exact\\b",
            "\\bstatic \\{",
            "\\bString\\.", "\\bSystem\\.(?!arraycopy)", "\\bprotected\\b", "\\bpackage\\b", "\\bequals\\b",
            "\\bhashCode\\b", "\\btoString\\b", "\\bwhile\\b", "import (?!java\\.util\\.NoSuchElementException;)",
        };
        for (String word : forbidden) {
            due(!Pattern.compile(word).matcher(code).find(), "LANGUAGE.md: the program holds " + word);
        }
        due(code.chars().allMatch(sign -> sign < 127), "rule 4: a sign beyond 126");
    }
}
