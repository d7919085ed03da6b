import java.lang.reflect.Constructor;
import java.lang.reflect.Executable;
import java.lang.reflect.Field;
import java.lang.reflect.Member;
import java.lang.reflect.Method;
import java.lang.reflect.Modifier;
import java.nio.file.Files;
import java.nio.file.Path;
import java.util.Arrays;
import java.util.List;
import java.util.Set;
import java.util.TreeSet;
import java.util.regex.Matcher;
import java.util.regex.Pattern;
import java.util.stream.Collectors;

/** The document's face, and the rules of LANGUAGE.md that can be seen from outside or in the source's words. */
public final class LanguageTest {
    private static final String ARGUMENT = " throws IllegalArgumentException";
    private static final String STATE = " throws IllegalStateException";
    private static final String BOTH = " throws IllegalArgumentException IllegalStateException";
    private static final Set<String> FACE = Set.of(
        "int sign(long, int)" + BOTH, "int read()" + BOTH, "int place()", "int edition(int)" + ARGUMENT,
        "int first(int)" + ARGUMENT, "int answer(int)" + BOTH, "int kind()", "int priority()" + STATE,
        "int points()" + STATE, "int asked(int)" + ARGUMENT, "int loop(int)" + ARGUMENT, "int never(int)" + ARGUMENT,
        "int endless(int)" + ARGUMENT, "int word(int, int, int)" + ARGUMENT);
    private static final Set<String> IMPORTS = Set.of("java.util.ArrayList", "java.util.Arrays", "java.util.List");
    private static final List<String> BARRED = List.of("->", "::", "\\bfinally\\b", "\\bsynchronized\\b", "\\bassert\\b",
        "\\bstatic \\{", "\\bgetMessage\\b", "Exact\\(", "\\bpackage\\b", "\\bThread\\b", "\\bString\\.", "\\bequals\\b",
        "\\bhashCode\\b", "\\btoString\\b", "\\bextends\\b", "\\bSystem\\.(?!arraycopy)",
        "catch \\((?!IllegalArgumentException |IllegalStateException )",
        "throw (?!new Illegal(Argument|State)Exception\\(\"[^\"]*\"\\);)");

    private static int wrong = 0;

    public static void main(String[] args) throws Exception {
        face();
        for (Class<?> inside : QuestionText.class.getDeclaredClasses()) {
            check(Modifier.isStatic(inside.getModifiers()), inside + " is not static");
            check(!Modifier.isPublic(inside.getModifiers()) && !Modifier.isProtected(inside.getModifiers()),
                inside + " is seen outside");
            sizes(inside);
        }
        sizes(QuestionText.class);
        check(QuestionText.class.getDeclaredClasses().length < 12, "too many classes");
        Path root = Path.of(System.getProperty("questiontext.root", "."));
        source(Files.readAllLines(root.resolve("src/main/java/QuestionText.java")));
        System.out.println(wrong == 0 ? "the rules are kept" : wrong + " rules are broken");
        if (wrong != 0) {
            System.exit(1);
        }
    }

    private static void check(boolean right, String told) {
        if (!right) {
            wrong++;
            System.out.println(told);
        }
    }

    private static void face() {
        Class<?> face = QuestionText.class;
        check(Modifier.isPublic(face.getModifiers()) && Modifier.isFinal(face.getModifiers()), "not public and final");
        Set<String> seen = new TreeSet<>();
        Set<String> names = new TreeSet<>();
        for (Method method : face.getDeclaredMethods()) {
            if (Modifier.isPublic(method.getModifiers())) {
                seen.add(told(method));
                names.add(method.getName());
            } else {
                onlyPrivate(method);
            }
        }
        check(seen.equals(FACE), "the face is " + seen);
        for (Field field : face.getDeclaredFields()) {
            onlyPrivate(field);
        }
        Constructor<?>[] constructors = face.getDeclaredConstructors();
        check(constructors.length == 1 && constructors[0].getParameterCount() == 0
            && Modifier.isPublic(constructors[0].getModifiers()), "the constructor is not as the document's");
        for (Class<?> inside : face.getDeclaredClasses()) {
            namesAreNotTheFaces(inside, names);
        }
        namesAreNotTheFaces(face, names);
    }

    private static String told(Method method) {
        String thrown = Arrays.stream(method.getExceptionTypes()).map(Class::getSimpleName).sorted()
            .collect(Collectors.joining(" "));
        String given = Arrays.stream(method.getParameterTypes()).map(Class::getSimpleName).collect(Collectors.joining(", "));
        return method.getReturnType().getSimpleName() + " " + method.getName() + "(" + given + ")"
            + (thrown.isEmpty() ? "" : " throws " + thrown);
    }

    private static void onlyPrivate(Member member) {
        check(Modifier.isPrivate(member.getModifiers()), member + " is seen outside");
    }

    private static void namesAreNotTheFaces(Class<?> of, Set<String> names) {
        for (Method method : of.getDeclaredMethods()) {
            boolean ofTheFace = of == QuestionText.class && Modifier.isPublic(method.getModifiers());
            check(ofTheFace || !names.contains(method.getName()), method + " bears a public method's name");
        }
    }

    private static void sizes(Class<?> of) {
        int fields = 0;
        for (Field field : of.getDeclaredFields()) {
            int modifiers = field.getModifiers();
            boolean constant = Modifier.isStatic(modifiers);
            check(!constant || Modifier.isFinal(modifiers) && field.getType() == int.class, field + " is no constant");
            fields += constant ? 0 : 1;
        }
        check(fields <= 20, of + " has too many fields");
        for (Method method : of.getDeclaredMethods()) {
            fewParameters(method);
        }
        for (Constructor<?> constructor : of.getDeclaredConstructors()) {
            fewParameters(constructor);
        }
    }

    private static void fewParameters(Executable of) {
        check(of.getParameterCount() <= 7, of + " takes too many parameters");
    }

    private static void source(List<String> lines) {
        String code = lines.stream().filter(line -> !line.strip().startsWith("/**") && !line.strip().startsWith("//"))
            .collect(Collectors.joining("\n"));
        Matcher imported = Pattern.compile("import ([^;]+);").matcher(code);
        while (imported.find()) {
            check(IMPORTS.contains(imported.group(1)), "imports " + imported.group(1));
        }
        for (String barred : BARRED) {
            Matcher found = Pattern.compile(barred).matcher(code);
            if (found.find()) {
                int from = code.lastIndexOf('\n', found.start()) + 1;
                check(false, "not in the language: " + code.substring(from, code.indexOf('\n', from)).strip());
            }
        }
        shortMethods(lines);
    }

    /** A method's body ends with the brace that stands below its first line. */
    private static void shortMethods(List<String> lines) {
        for (int begin = 0; begin < lines.size(); begin++) {
            String line = lines.get(begin);
            if (line.endsWith(") {") && line.matches(" {4}( {4})?[a-zA-Z].*") || line.endsWith("Exception {")) {
                String end = line.substring(0, line.indexOf(line.strip())) + "}";
                int last = begin;
                while (last < lines.size() && !lines.get(last).equals(end)) {
                    last++;
                }
                check(last - begin <= 60, "too long: " + line.strip());
            }
        }
    }
}
