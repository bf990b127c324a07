import java.io.IOException;
import java.lang.reflect.Constructor;
import java.lang.reflect.Field;
import java.lang.reflect.Method;
import java.lang.reflect.Modifier;
import java.nio.file.Files;
import java.nio.file.Path;
import java.util.ArrayList;
import java.util.Arrays;
import java.util.List;
import java.util.Set;
import java.util.TreeSet;
import java.util.regex.Matcher;
import java.util.regex.Pattern;
import java.util.stream.Collectors;

/** The face is the document's, and the source keeps to those rules of LANGUAGE.md that its text shows. */
public final class FaceTest {
    private static final Path DOCUMENT = Path.of("../shared/DOC.md");
    private static final Path SOURCE = Path.of("src/main/java/VendingRoutes.java");
    private static int wrong = 0;

    private FaceTest() {
    }

    private static void check(boolean holds, String told) {
        if (!holds) {
            wrong++;
            System.out.println(told);
        }
    }

    public static void main(String[] args) throws IOException {
        face(Files.readString(DOCUMENT));
        members();
        nestedClasses();
        text(Files.readString(SOURCE));
        System.out.println("the face and the language: " + wrong + " wrong");
        System.exit(wrong == 0 ? 0 : 1);
    }

    private static void face(String document) {
        String start = "public final class VendingRoutes {";
        String block = document.substring(document.indexOf(start), document.indexOf("\n}", document.indexOf(start)));
        Set<String> due = new TreeSet<>();
        Matcher line = Pattern.compile("public (\\w+) (\\w+)\\((.*?)\\)( throws [^;]*)?;").matcher(block);
        while (line.find()) {
            String types = line.group(3).replaceAll(" \\w+(,|$)", "$1");
            due.add(line.group(1) + " " + line.group(2) + "(" + types + ")"
                    + (line.group(4) == null ? "" : line.group(4)));
        }
        Set<String> is = new TreeSet<>();
        for (Method m : VendingRoutes.class.getDeclaredMethods()) {
            if (Modifier.isPublic(m.getModifiers())) {
                String thrown = names(m.getExceptionTypes());
                is.add(m.getReturnType().getSimpleName() + " " + m.getName() + "(" + names(m.getParameterTypes()) + ")"
                        + (thrown.isEmpty() ? "" : " throws " + thrown));
            }
        }
        check(due.size() == 63, "the document's methods are not all found: " + due.size());
        check(due.equals(is), "methods: " + is + "\ndue: " + due);
    }

    private static String names(Class<?>[] types) {
        return Arrays.stream(types).map(Class::getSimpleName).collect(Collectors.joining(", "));
    }

    private static void members() {
        Class<?> type = VendingRoutes.class;
        check(Modifier.isFinal(type.getModifiers()), "the class is not final");
        Constructor<?>[] made = type.getDeclaredConstructors();
        check(made.length == 1 && Modifier.isPublic(made[0].getModifiers()) && made[0].getParameterCount() == 0,
                "not the one constructor");
        List<String> faces = new ArrayList<>();
        for (Method m : type.getDeclaredMethods()) {
            int modifiers = m.getModifiers();
            check(Modifier.isPublic(modifiers) || Modifier.isPrivate(modifiers), m + " is neither");
            if (Modifier.isPublic(modifiers)) {
                faces.add(m.getName());
            }
        }
        for (Class<?> inside : withNested()) {
            for (Method m : inside.getDeclaredMethods()) {
                boolean isFace = inside == type && Modifier.isPublic(m.getModifiers());
                check(isFace || !faces.contains(m.getName()), m + " bears a public name");
            }
        }
        for (Field f : type.getDeclaredFields()) {
            boolean isNone = f.getName().equals("NONE") && Modifier.isPublic(f.getModifiers());
            check(isNone || Modifier.isPrivate(f.getModifiers()), f + " is not private");
        }
    }

    private static List<Class<?>> withNested() {
        List<Class<?>> all = new ArrayList<>(List.of(VendingRoutes.class));
        all.addAll(List.of(VendingRoutes.class.getDeclaredClasses()));
        return all;
    }

    private static void nestedClasses() {
        check(withNested().size() <= 12, "more than twelve classes");
        for (Class<?> inside : withNested()) {
            int fields = 0;
            for (Field f : inside.getDeclaredFields()) {
                boolean isStatic = Modifier.isStatic(f.getModifiers());
                fields += isStatic ? 0 : 1;
                check(!isStatic || Modifier.isFinal(f.getModifiers()), f + " is static and not final");
            }
            check(fields <= 20, inside + " has " + fields + " fields");
            for (Method m : inside.getDeclaredMethods()) {
                check(m.getParameterCount() <= 7, m + " takes too many parameters");
            }
            if (inside != VendingRoutes.class) {
                int modifiers = inside.getModifiers();
                check(Modifier.isStatic(modifiers), inside + " is not static");
                check(!Modifier.isPublic(modifiers) && !Modifier.isProtected(modifiers), inside + " is public");
            }
        }
    }

    private static void text(String source) {
        String code = source.replaceAll("(?s)/\\*.*?\\*/", "").replaceAll("//[^\n]*", "");
        String[] refused = {"->", "::", "\\btry\\b", "\\bcatch\\b", "\\bfinally\\b", "\\bsynchronized\\b",
            "\\bassert\\b", "\\bObject\\b", "\\bpackage\\b", "static \\{", "\\bequals\\b", "\\bhashCode\\b",
            "\\btoString\\b", "\\bSystem\\.(?!arraycopy)", "Exact\\(", "\\bDouble\\b", "\\bFloat\\b", "\\bvar\\b",
            "\"\\s*\\+", "\\+\\s*\"", "\\bMath\\.(?!min|max|abs)", "\\bnew (?!int\\[|byte\\[|float\\[|boolean\\["
            + "|State|Machine|Slot|Fleet|Rulebook|History|Planner|Simulator|Scanner|Parser|StringBuilder"
            + "|(IllegalState|IllegalArgument|IndexOutOfBounds)Exception\\()"};
        for (String pattern : refused) {
            check(!Pattern.compile(pattern).matcher(code).find(), "the source has " + pattern);
        }
        Matcher imported = Pattern.compile("import ([^;]*);").matcher(code);
        while (imported.find()) {
            check(imported.group(1).equals("java.util.Arrays"), "the source imports " + imported.group(1));
        }
        check(source.chars().allMatch(sign -> sign == '\n' || sign >= 32 && sign < 127), "a sign beyond ASCII");
    }
}
