import java.lang.reflect.Field;
import java.lang.reflect.Member;
import java.lang.reflect.Method;
import java.lang.reflect.Modifier;
import java.nio.charset.StandardCharsets;
import java.nio.file.Files;
import java.nio.file.Path;
import java.util.Arrays;
import java.util.Set;
import java.util.TreeSet;
import java.util.regex.Matcher;
import java.util.regex.Pattern;

// The public face is that of the document, and the file keeps to the rules of LANGUAGE.md that can be read off it.
public final class FaceTest {
    private static final Path PROGRAM = Path.of("src/main/java/BitLevels.java");
    private static final Path DOCUMENT = Path.of("../shared/DOC.md");
    private static final int LONGEST_METHOD = 60;
    private static final String[] FACE = {
        "int INVALID_ARGUMENT", "int NOT_POSSIBLE", "int LIMIT_REACHED", "int NOT_FOUND", "BitLevels()",
        "int put(int, int)", "int take(int)", "int change(int, int)", "int swap(int, int)", "int turn(int, int)",
        "int sort(int, int)", "int levelOf(int, int, int)", "int blockOf(int, int, int)", "long bits(int)",
        "int symbolAt(int)", "int rank(int, int)", "int select(int, int)", "int smallest(int, int, int)",
        "int below(int, int, int)", "int notBelow(int, int, int)", "int spanOf(int, int, int)",
        "long product(int, int)", "int common(int, int, int, int, int)", "int heaviest(int, int)", "int count(int)",
        "int undo()", "int type(int)", "int clearText()", "int fault(int)", "int play()",
    };
    private static final String[] NOT_ALLOWED = {
        "\\bthrow\\b", "\\bthrows\\b", "\\btry\\b", "\\bcatch\\b", "\\bsynchronized\\b", "\\bassert\\b",
        "\\bimport\\b", "\\bpackage\\b", "->", "::", "\\bSystem\\.(?!arraycopy)", "Exact\\b", "\\bstatic\\s*\\{",
        "\\bequals\\b", "\\bhashCode\\b", "\\btoString\\b", "\\bprotected\\b", "\\bsuper\\b", "[^\\x01-\\x7f]",
        // Of these the library that may be used has functions alone.
        "\\b(?:Integer|Long|Math)\\.\\w+\\b(?!\\()",
    };

    private static int wrong = 0;

    private static void due(boolean holds, String fault) {
        if (!holds) {
            wrong++;
            System.out.println(fault);
        }
    }

    private static String types(Class<?>... types) {
        return Arrays.toString(Arrays.stream(types).map(Class::getSimpleName).toArray())
                .replace('[', '(').replace(']', ')');
    }

    private static boolean isSeen(Member member) {
        return !member.isSynthetic() && !Modifier.isPrivate(member.getModifiers());
    }

    private static void face() {
        Set<String> got = new TreeSet<>();
        for (Field field : BitLevels.class.getDeclaredFields()) {
            if (isSeen(field)) {
                int flags = Modifier.PUBLIC | Modifier.STATIC | Modifier.FINAL;
                due(field.getModifiers() == flags, field + " is no public constant");
                got.add(field.getType().getSimpleName() + " " + field.getName());
            }
        }
        for (Method method : BitLevels.class.getDeclaredMethods()) {
            if (isSeen(method)) {
                due(method.getModifiers() == Modifier.PUBLIC, method + " is not just public");
                due(method.getExceptionTypes().length == 0, method + " tells exceptions");
                got.add(method.getReturnType().getSimpleName() + " " + method.getName()
                        + types(method.getParameterTypes()));
            }
        }
        for (var constructor : BitLevels.class.getDeclaredConstructors()) {
            due(constructor.getModifiers() == Modifier.PUBLIC, constructor + " is not public");
            got.add("BitLevels" + types(constructor.getParameterTypes()));
        }
        Set<String> want = new TreeSet<>(Arrays.asList(FACE));
        due(got.equals(want), "the face is " + got + ", due is " + want);
        int flags = BitLevels.class.getModifiers();
        due(flags == (Modifier.PUBLIC | Modifier.FINAL), "the class is not public and final");
        due(BitLevels.class.getPackageName().isEmpty(), "the class has a package");
    }

    /** The face that this test knows is the one of the document; where that is not at hand, it stands without it. */
    private static void faceOfDocument() throws Exception {
        if (!Files.isReadable(DOCUMENT)) {
            System.out.println("no document at hand: its face is not compared");
            return;
        }
        Set<String> told = new TreeSet<>();
        for (String line : Files.readAllLines(DOCUMENT)) {
            if (line.startsWith("    public ")) {
                String nameless = line.strip().replaceAll("int \\w+(?=[,)])", "int");
                told.add(nameless.replaceAll("^public (static final )?| = .*|;", ""));
            }
        }
        Set<String> known = new TreeSet<>(Arrays.asList(FACE));
        due(told.equals(known), "the document's face is " + told + ", known is " + known);
    }

    private static void classesInside() {
        Set<String> names = new TreeSet<>();
        for (Method method : BitLevels.class.getDeclaredMethods()) {
            if (Modifier.isPublic(method.getModifiers())) {
                names.add(method.getName());
            }
        }
        noSecondUse(BitLevels.class, names);
        Class<?>[] inside = BitLevels.class.getDeclaredClasses();
        due(inside.length <= 11, "too many classes inside: " + inside.length);
        for (Class<?> one : inside) {
            int flags = one.getModifiers();
            due(Modifier.isStatic(flags), one + " is not static");
            due(!Modifier.isPublic(flags) && !Modifier.isProtected(flags), one + " can be seen from outside");
            noSecondUse(one, names);
        }
    }

    private static void noSecondUse(Class<?> one, Set<String> names) {
        int fields = 0;
        for (Field field : one.getDeclaredFields()) {
            boolean isConstant = Modifier.isStatic(field.getModifiers());
            due(!isConstant || Modifier.isFinal(field.getModifiers()), field + " is static, not final");
            fields += isConstant ? 0 : 1;
        }
        due(fields <= 20, one + " has too many fields: " + fields);
        for (Method method : one.getDeclaredMethods()) {
            due(method.getParameterCount() <= 7, method + " takes too many parameters");
            due(one == BitLevels.class && Modifier.isPublic(method.getModifiers()) || !names.contains(method.getName()),
                    method + " bears the name of a public one");
        }
    }

    private static void words() throws Exception {
        String program = Files.readString(PROGRAM, StandardCharsets.ISO_8859_1);
        String code = program.replaceAll("(?s)/\\*.*?\\*/", " ").replaceAll("//[^\\n]*", " ");
        for (String word : NOT_ALLOWED) {
            due(!Pattern.compile(word).matcher(code).find(), PROGRAM + " has " + word);
        }
    }

    /** A method begins at a line with its brace, and ends at the brace that stands as far in. */
    private static void lengths() throws Exception {
        Pattern head = Pattern.compile("( +)[^ /*].*\\) \\{");
        String[] lines = Files.readString(PROGRAM, StandardCharsets.ISO_8859_1).split("\\R");
        int methods = 0;
        for (int at = 0; at < lines.length; at++) {
            Matcher method = head.matcher(lines[at]);
            if (method.matches() && !lines[at].matches(" +(if|for|while|switch|\\}).*")) {
                methods++;
                int end = at;
                while (end < lines.length && !lines[end].equals(method.group(1) + "}")) {
                    end++;
                }
                due(end - at < LONGEST_METHOD, lines[at].strip() + " is too long");
            }
        }
        due(methods > FACE.length - 4, "methods that were found: " + methods);
    }

    public static void main(String[] args) throws Exception {
        face();
        faceOfDocument();
        classesInside();
        words();
        lengths();
        System.out.println(wrong == 0 ? "the face is as due" : wrong + " faults of the face");
        if (wrong != 0) {
            System.exit(1);
        }
    }
}
