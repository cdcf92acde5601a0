import java.lang.reflect.Constructor;
import java.lang.reflect.Field;
import java.lang.reflect.Method;
import java.lang.reflect.Modifier;
import java.nio.file.Files;
import java.nio.file.Path;
import java.util.ArrayList;
import java.util.List;
import java.util.Set;
import java.util.TreeSet;
import java.util.regex.Pattern;

/** The face is the document's and no other, and the source keeps to what of LANGUAGE.md can be told from outside. */
public final class FaceTest {
    private static final Due DUE = new Due();
    private static final Path SOURCE = Path.of("src/main/java/BrowArmy.java");
    private static final Path DOCUMENT = Path.of("../shared/DOC.md");

    public static void main(String[] args) throws Exception {
        faceIsTheDocuments();
        nothingElseIsSeen();
        fieldsAndClasses();
        sourceKeepsToTheLanguage();
        methodsAreShort();
        DUE.finish();
    }

    private static void faceIsTheDocuments() throws Exception {
        Set<String> told = new TreeSet<>();
        for (String line : Files.readAllLines(DOCUMENT)) {
            if (line.startsWith("    public ") && line.contains("(")) {
                told.add(line.trim().replace("public ", "").replaceAll(" throws .*|;", "")
                    .replaceAll(" [a-z]+([,)])", "$1"));
            }
        }
        Set<String> built = new TreeSet<>();
        for (Method method : BrowArmy.class.getDeclaredMethods()) {
            if (Modifier.isPublic(method.getModifiers())) {
                built.add(method.getReturnType().getName() + " " + method.getName() + "(" + types(method.getParameterTypes())
                    + ")");
            }
        }
        for (Constructor<?> constructor : BrowArmy.class.getDeclaredConstructors()) {
            built.add("BrowArmy(" + types(constructor.getParameterTypes()) + ")");
        }
        DUE.isText("the face", built.toString(), told.toString());
        DUE.is("how many calls and constructors", built.size(), 43);
        DUE.is("NONE", BrowArmy.NONE, -1);
    }

    private static String types(Class<?>[] types) {
        List<String> names = new ArrayList<>();
        for (Class<?> type : types) {
            names.add(type.getName());
        }
        return String.join(", ", names);
    }

    private static void nothingElseIsSeen() {
        Set<String> open = new TreeSet<>();
        Set<String> hidden = new TreeSet<>();
        for (Method method : BrowArmy.class.getDeclaredMethods()) {
            if (Modifier.isPublic(method.getModifiers())) {
                open.add(method.getName());
            } else {
                hidden.add(method.getName());
                DUE.is(method + " is private", Modifier.isPrivate(method.getModifiers()), true);
            }
        }
        for (Class<?> inside : BrowArmy.class.getDeclaredClasses()) {
            for (Method method : inside.getDeclaredMethods()) {
                hidden.add(method.getName());
            }
        }
        hidden.retainAll(open);
        DUE.isText("names of the face within", hidden.toString(), "[]");
        for (Field field : BrowArmy.class.getDeclaredFields()) {
            boolean isNone = field.getName().equals("NONE");
            DUE.is(field + " is as seen as it may be", isNone == Modifier.isPublic(field.getModifiers())
                && (isNone || Modifier.isPrivate(field.getModifiers())), true);
        }
        DUE.is("the class is final", Modifier.isFinal(BrowArmy.class.getModifiers()), true);
    }

    private static void fieldsAndClasses() {
        Class<?>[] inside = BrowArmy.class.getDeclaredClasses();
        DUE.is("classes inside", inside.length <= 12, true);
        List<Class<?>> all = new ArrayList<>(List.of(inside));
        all.add(BrowArmy.class);
        for (Class<?> each : all) {
            int fields = 0;
            for (Field field : each.getDeclaredFields()) {
                boolean isStatic = Modifier.isStatic(field.getModifiers());
                fields += isStatic ? 0 : 1;
                DUE.is(field + " is no static state", !isStatic || Modifier.isFinal(field.getModifiers()), true);
            }
            DUE.is(each + " has few fields", fields <= 20, true);
            DUE.is(each + " is static", each == BrowArmy.class || Modifier.isStatic(each.getModifiers()), true);
            for (Method method : each.getDeclaredMethods()) {
                DUE.is(method + " has few parameters", method.getParameterCount() <= 7, true);
            }
        }
    }

    private static void sourceKeepsToTheLanguage() throws Exception {
        String source = Files.readString(SOURCE);
        String code = source.replaceAll("(?s)/\\*.*?\\*/", "").replaceAll("//[^\n]*", "");
        String[] banned = {"\\bcatch\\b", "\\btry\\b", "\\bfinally\\b", "->", "::", "\\bsynchronized\\b", "\\bassert\\b",
            "\\bnew \\w+\\[[^\\]]*\\]\\[", "\\bdouble\\b", "\\bfloat\\b", "\\bhashCode\\b", "\\btoString\\b", "\\bSystem\\.(?!arraycopy)",
            "\\bString\\.", "\\bpackage\\b", "\"\\s*\\+", "\\+\\s*\"", "\\bObject\\b", "Exact\\b", "static \\{", "\\bRandom\\b"};
        for (String each : banned) {
            DUE.is("the source without " + each, Pattern.compile(each).matcher(code).find(), false);
        }
        DUE.is("imports", code.split("\\bimport ").length - 1, 1);
        DUE.is("throws but one", code.split("\\bthrow ").length - 1, 1);
        DUE.is("signs 1 to 127", source.chars().allMatch(c -> c < 128), true);
    }

    /** Counted by indentation: a method's head stands 4 or 8 deep, and so does its last bracket. */
    private static void methodsAreShort() throws Exception {
        List<String> lines = Files.readAllLines(SOURCE);
        for (int i = 0; i < lines.size(); i++) {
            String head = lines.get(i);
            String margin = head.startsWith("        ") ? "        " : "    ";
            if (head.matches("( {4}| {8})[a-zA-Z].*\\) (throws \\w+ )?\\{")) {
                int length = 1;
                while (i + length < lines.size() && !lines.get(i + length).equals(margin + "}")) {
                    length++;
                }
                DUE.is(head.trim() + " is short", length <= 60, true);
            }
        }
    }
}
