import java.io.IOException;
import java.lang.reflect.Field;
import java.lang.reflect.Member;
import java.lang.reflect.Method;
import java.lang.reflect.Modifier;
import java.nio.file.Files;
import java.nio.file.Path;
import java.util.Arrays;
import java.util.List;
import java.util.Set;
import java.util.TreeSet;
import java.util.regex.Matcher;
import java.util.regex.Pattern;
import java.util.stream.Collectors;

/** The face of the document and nothing beside it, and what LANGUAGE.md rules out. */
public final class LanguageTest {
    private static final Path SOURCE = Path.of("src", "main", "java", "ArcGuesser.java");
    private static final Set<String> FACE = new TreeSet<>(List.of(
            "int graph(int, int)", "int arc(int, int, int)", "int group(int, int)",
            "int hide(int, int, boolean)", "int since(int)", "int split(int, int, int)",
            "int count(int)", "int paths(int, int, int)", "int weigh(int, int)", "int weight(int)",
            "int score(int, int, int)", "long top()", "long bottom()", "int ranked(int)",
            "int place(int, int)", "int among(int)", "int share()", "int sample(int)",
            "int learn(int, int)"));
    private static final Checks CHECKS = new Checks();

    public static void main(String[] args) throws IOException {
        face();
        classesInside();
        source(withoutComments(Files.readString(SOURCE)));
        CHECKS.finish();
    }

    private static void face() {
        CHECKS.part("the face");
        Set<String> shown = new TreeSet<>();
        for (Method method : ArcGuesser.class.getDeclaredMethods()) {
            if (Modifier.isPublic(method.getModifiers())) {
                shown.add(signature(method));
            } else {
                isPrivate(method);
            }
        }
        CHECKS.holds("the public methods are those of the document: " + shown, shown.equals(FACE));
        CHECKS.due("how many constructors", ArcGuesser.class.getDeclaredConstructors().length, 1);
        CHECKS.due("how many public ones", ArcGuesser.class.getConstructors().length, 1);
        int modifiers = ArcGuesser.class.getModifiers();
        CHECKS.holds("it is final", Modifier.isFinal(modifiers) && Modifier.isPublic(modifiers));
        for (Field field : ArcGuesser.class.getDeclaredFields()) {
            isPrivate(field);
        }
        staticsAreFinal(ArcGuesser.class);
    }

    private static String signature(Method method) {
        String start = method.getReturnType().getSimpleName() + " " + method.getName() + "(";
        return Arrays.stream(method.getParameterTypes()).map(Class::getSimpleName)
                .collect(Collectors.joining(", ", start, ")"));
    }

    private static void isPrivate(Member member) {
        CHECKS.holds(member.getName() + " is private", Modifier.isPrivate(member.getModifiers()));
    }

    private static void staticsAreFinal(Class<?> type) {
        int fields = 0;
        for (Field field : type.getDeclaredFields()) {
            boolean isStatic = Modifier.isStatic(field.getModifiers());
            fields += isStatic ? 0 : 1;
            CHECKS.holds(field.getName() + " is final, or not static",
                    !isStatic || Modifier.isFinal(field.getModifiers()));
        }
        CHECKS.holds(type.getName() + " has at most twenty fields", fields <= 20);
    }

    private static void classesInside() {
        CHECKS.part("classes inside");
        Set<String> publicNames = FACE.stream()
                .map(face -> face.substring(face.indexOf(' ') + 1, face.indexOf('(')))
                .collect(Collectors.toCollection(TreeSet::new));
        Class<?>[] inside = ArcGuesser.class.getDeclaredClasses();
        CHECKS.holds("there are at most twelve classes", inside.length < 12);
        for (Class<?> type : inside) {
            int modifiers = type.getModifiers();
            CHECKS.holds(type.getName() + " is static", Modifier.isStatic(modifiers));
            CHECKS.holds(type.getName() + " is not shown",
                    !Modifier.isPublic(modifiers) && !Modifier.isProtected(modifiers));
            staticsAreFinal(type);
            for (Method method : type.getDeclaredMethods()) {
                CHECKS.holds(method.getName() + " is no name of the face",
                        !publicNames.contains(method.getName()));
                CHECKS.holds(method.getName() + " has at most seven parameters",
                        method.getParameterCount() <= 7);
            }
        }
    }

    private static String withoutComments(String text) {
        return text.replaceAll("(?s)/\\*.*?\\*/", "").replaceAll("//[^\n]*", "");
    }

    private static void source(String code) {
        CHECKS.part("the source");
        String[] words = {"throw", "throws", "try", "catch", "synchronized", "assert", "package",
            "double", "float", "Random", "Thread", "\\w+Exact", "native", "volatile", "Object",
            "equals", "hashCode", "toString"};
        for (String word : words) {
            standsNot(code, "\\b" + word + "\\b");
        }
        standsNot(code, "\\bSystem\\.(?!arraycopy\\b)");
        standsNot(code, "\\bstatic\\s*\\{");
        CHECKS.holds("there is no lambda", !code.contains("->"));
        CHECKS.holds("there is no method reference", !code.contains("::"));
        Matcher imports = Pattern.compile("import ([^;]*);").matcher(code);
        while (imports.find()) {
            CHECKS.holds(imports.group(1) + " is allowed",
                    Set.of("java.util.Arrays", "java.util.ArrayList", "java.util.List",
                            "java.util.Iterator").contains(imports.group(1)));
        }
    }

    private static void standsNot(String code, String pattern) {
        CHECKS.holds("'" + pattern + "' stands nowhere",
                !Pattern.compile(pattern).matcher(code).find());
    }
}
