import java.io.IOException;
import java.lang.reflect.Constructor;
import java.lang.reflect.Field;
import java.lang.reflect.Method;
import java.lang.reflect.Modifier;
import java.nio.file.Files;
import java.nio.file.Path;
import java.util.Arrays;
import java.util.HashSet;
import java.util.List;
import java.util.Set;
import java.util.TreeSet;
import java.util.regex.Matcher;
import java.util.regex.Pattern;
import java.util.stream.Collectors;

/** The face of the class as the document writes it, and those rules of the language that a text search can find. */
public final class FaceTests {
    private static final Path SOURCE = Path.of("src/main/java/RecipeForests.java");
    private static final Path DOCUMENT = Path.of("../shared/DOC.md");
    private static final String[] BANNED = {
        "->", "::", "\\bcatch\\b", "\\bfinally\\b", "\\btry\\b", "\\bsynchronized\\b", "\\bassert\\b", "\\bprotected\\b", "\\bpackage\\b",
        "\\bvar\\b", "\\bFloat\\b", "\\bDouble\\b", "\\bLong\\b", "\\bCharacter\\b", "\\bMath\\.\\w*Exact\\b", "\\bRandom\\b", "\\bThread\\b",
        "System\\.(?!arraycopy\\b)", "\\bMath\\.(?!(?:abs|min|max|floorDiv|floorMod|compare)\\b)", "\\bextends\\b", "\\bnew int\\[\\w+\\]\\[",
        "\\btoString\\b", "\\bhashCode\\b", "@Override", "import (?!java\\.util\\.NoSuchElementException;)",
    };

    private static int wrong = 0;

    public static void main(String[] args) throws IOException {
        face();
        membersOfTheClass();
        rules(Files.readString(SOURCE));
        System.out.println("the face and the language: " + wrong + " faults");
        if (wrong != 0) {
            System.exit(1);
        }
    }

    private static void fault(boolean isSo, String what) {
        if (isSo) {
            wrong++;
            System.out.println(what);
        }
    }

    private static void face() throws IOException {
        String document = Files.readString(DOCUMENT);
        int start = document.indexOf("public final class RecipeForests {");
        String text = document.substring(start, document.indexOf("\n}", start));
        Set<String> due = new TreeSet<>();
        Matcher matcher = Pattern.compile("public (\\w+) (\\w+)\\(([^)]*)\\)(?: throws ([^;]*))?;").matcher(text);
        while (matcher.find()) {
            String types = Arrays.stream(matcher.group(3).split(",")).map(part -> part.trim().split(" ")[0]).collect(Collectors.joining(","));
            String exceptions = matcher.group(4) == null ? "" : matcher.group(4).replace(" ", "");
            due.add(matcher.group(1) + " " + matcher.group(2) + "(" + types + ")" + exceptions);
        }
        Set<String> got = new TreeSet<>();
        for (Method method : RecipeForests.class.getDeclaredMethods()) {
            if (Modifier.isPublic(method.getModifiers())) {
                got.add(method.getReturnType().getSimpleName() + " " + method.getName() + "(" + names(method.getParameterTypes()) + ")"
                        + names(method.getExceptionTypes()));
            }
        }
        fault(due.size() != 38, "the document's face has " + due.size() + " methods");
        fault(!due.equals(got), "the face is " + got + ", due is " + due);
    }

    private static String names(Class<?>[] types) {
        return Arrays.stream(types).map(Class::getSimpleName).collect(Collectors.joining(","));
    }

    private static void membersOfTheClass() {
        Class<?> face = RecipeForests.class;
        fault(face.getModifiers() != (Modifier.PUBLIC | Modifier.FINAL), "the class is not public and final");
        Constructor<?>[] constructors = face.getDeclaredConstructors();
        fault(constructors.length != 1 || constructors[0].getModifiers() != Modifier.PUBLIC || constructors[0].getParameterCount() != 0
                || constructors[0].getExceptionTypes().length != 0, "the constructor is not the one of the face");
        fault(face.getSuperclass() != Object.class || face.getInterfaces().length != 0 || face.getPackage().getName().length() != 0,
                "the class stands below others, or in a package");
        Set<String> publicNames = new HashSet<>();
        for (Method method : face.getDeclaredMethods()) {
            boolean isPublic = Modifier.isPublic(method.getModifiers());
            fault(!isPublic && !Modifier.isPrivate(method.getModifiers()), method + " is neither public nor private");
            fault(isPublic && method.getModifiers() != Modifier.PUBLIC, method + " is not as the face has it");
            if (isPublic) {
                publicNames.add(method.getName());
            }
        }
        List<Class<?>> all = List.of(face.getDeclaredClasses());
        fault(all.size() > 11, "there are too many classes inside");
        checkClass(face, publicNames);
        for (Class<?> inside : all) {
            fault(!Modifier.isStatic(inside.getModifiers()) || Modifier.isPublic(inside.getModifiers()), inside + " is not as rule 2 wants it");
            checkClass(inside, publicNames);
        }
    }

    private static void checkClass(Class<?> type, Set<String> publicNames) {
        int fields = 0;
        for (Field field : type.getDeclaredFields()) {
            boolean isStatic = Modifier.isStatic(field.getModifiers());
            fault(isStatic && !Modifier.isFinal(field.getModifiers()), field + " is static and not final");
            fault(!Modifier.isPrivate(field.getModifiers()), field + " is not private");
            fields += isStatic ? 0 : 1;
        }
        fault(fields > 20, type + " has " + fields + " fields");
        for (Method method : type.getDeclaredMethods()) {
            fault(!Modifier.isPublic(method.getModifiers()) && publicNames.contains(method.getName()), method + " bears a name of the face");
            fault(method.getParameterCount() > 7, method + " takes too many parameters");
        }
    }

    private static void rules(String source) {
        String code = source.replaceAll("/\\*[\\s\\S]*?\\*/", "").replaceAll("//[^\\n]*", "").replaceAll("\"[^\"\\n]*\"", "\"\"");
        for (String banned : BANNED) {
            Matcher matcher = Pattern.compile(banned).matcher(code);
            fault(matcher.find(), "the source has what " + banned + " finds");
        }
        fault(source.chars().anyMatch(c -> c > 126), "the source has a sign beyond 126");
        Matcher thrown = Pattern.compile("\\bthrow\\b[^;]*;").matcher(code);
        Pattern form = Pattern.compile("throw new (IllegalStateException|IllegalArgumentException|IndexOutOfBoundsException"
                + "|UnsupportedOperationException|NoSuchElementException)\\(\"\"\\);");
        while (thrown.find()) {
            fault(!form.matcher(thrown.group()).matches(), thrown.group() + " is not as rule 6 wants it");
        }
        int length = 0;
        for (String lineOfCode : source.split("\n")) {
            length = lineOfCode.isBlank() ? 0 : length + 1;
            fault(length > 60, "a block of the source is too long: " + lineOfCode);
        }
    }
}
