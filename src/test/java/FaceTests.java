import java.io.IOException;
import java.lang.reflect.Constructor;
import java.lang.reflect.Field;
import java.lang.reflect.Member;
import java.lang.reflect.Method;
import java.lang.reflect.Modifier;
import java.nio.file.Files;
import java.nio.file.Path;
import java.util.Arrays;
import java.util.TreeSet;
import java.util.regex.Matcher;
import java.util.regex.Pattern;

/** The face is the document's, and the source keeps to what of LANGUAGE.md can be read off it. */
public final class FaceTests {
    private static final Path SOURCE = Path.of("src/main/java/RankedSearch.java");
    private static final int MOST_LINES = 60;
    private static final int MOST_CLASSES = 12;
    private static final int MOST_FIELDS = 20;
    private static final int MOST_PARAMETERS = 7;

    private FaceTests() {
    }

    public static void main(String[] args) throws IOException {
        face();
        fields();
        String source = Files.readString(SOURCE);
        code(source);
        methods(source);
        Check.end();
    }

    private static void face() {
        TreeSet<String> face = new TreeSet<>();
        for (Field field : RankedSearch.class.getDeclaredFields()) {
            note(face, field, field.getType().getSimpleName() + " " + field.getName());
        }
        for (Method method : RankedSearch.class.getDeclaredMethods()) {
            note(face, method, method.getReturnType().getSimpleName() + " " + method.getName() + types(method.getParameterTypes()));
        }
        for (Constructor<?> constructor : RankedSearch.class.getDeclaredConstructors()) {
            note(face, constructor, "RankedSearch" + types(constructor.getParameterTypes()));
        }
        TreeSet<String> due = new TreeSet<>(Arrays.asList(
            "public static final int NONE", "public RankedSearch[]", "public int feed[int, long]",
            "public int wipe[]", "public int put[int]", "public boolean drop[int]", "public int told[int]",
            "public long word[int]", "public int about[int]", "public int find[int]", "public int fault[]",
            "public int place[]", "public int similar[int, int]", "public int hit[int]", "public int score[int]"));
        Check.due("the face", face.toString(), due.toString());
        Check.due("the class", Modifier.toString(RankedSearch.class.getModifiers()), "public final");
    }

    private static void note(TreeSet<String> face, Member member, String text) {
        if (!Modifier.isPrivate(member.getModifiers()) && !member.isSynthetic()) {
            face.add(Modifier.toString(member.getModifiers()) + " " + text);
        }
    }

    private static String types(Class<?>[] types) {
        return Arrays.toString(Arrays.stream(types).map(Class::getSimpleName).toArray());
    }

    private static void fields() {
        Class<?>[] inside = RankedSearch.class.getDeclaredClasses();
        Check.due("few classes", inside.length + 1 <= MOST_CLASSES, true);
        TreeSet<String> faceNames = new TreeSet<>();
        for (Method method : RankedSearch.class.getDeclaredMethods()) {
            if (Modifier.isPublic(method.getModifiers())) {
                faceNames.add(method.getName());
            }
        }
        for (Class<?> one : inside) {
            Check.due(one + " is static", Modifier.isStatic(one.getModifiers()), true);
            int own = 0;
            for (Field field : one.getDeclaredFields()) {
                boolean fixed = Modifier.isStatic(field.getModifiers());
                Check.due(field + " is final if static", !fixed || Modifier.isFinal(field.getModifiers()), true);
                own += fixed ? 0 : 1;
            }
            Check.due(one + " has few fields", own <= MOST_FIELDS, true);
            ownMethods(one, faceNames);
        }
        ownMethods(RankedSearch.class, faceNames);
    }

    private static void ownMethods(Class<?> one, TreeSet<String> faceNames) {
        for (Method method : one.getDeclaredMethods()) {
            Check.due(method + " is no private name of the face",
                Modifier.isPrivate(method.getModifiers()) && faceNames.contains(method.getName()), false);
            Check.due(method + " has few parameters", method.getParameterCount() <= MOST_PARAMETERS, true);
        }
    }

    /** The source without its comments and texts has none of what the rules leave out. */
    private static void code(String source) {
        String code = source.replaceAll("(?s)/\\*.*?\\*/|//[^\n]*", " ").replaceAll("\"[^\"]*\"", "\"\"");
        String[] outside = {
            "->", "::", "\\bcatch\\b", "\\btry\\b", "\\bfinally\\b", "\\bassert\\b", "\\bsynchronized\\b",
            "\\bpackage\\b", "\\bprotected\\b", "\\bvar\\b", "\\bsuper\\b", "\\binstanceof\\b", "Exact\\b",
            "\\bequals\\b", "\\bhashCode\\b", "\\btoString\\b", "\\bextends\\b", "\\bimplements\\b",
            "static \\{", "\\b(double|float)\\b", "\\bSystem\\.(?!arraycopy)", "\\bMath\\.(?!min|max)",
            "\\b(Arrays|Collections|Objects|Character|Map|HashMap|Random|Thread)\\b"};
        for (String pattern : outside) {
            Matcher matcher = Pattern.compile(pattern).matcher(code);
            Check.due("the source has " + pattern, matcher.find() ? matcher.group() : "", "");
        }
        Matcher imports = Pattern.compile("import ([\\w.]+);").matcher(code);
        while (imports.find()) {
            Check.due("an import", imports.group(1), "java.util.ArrayList");
        }
        Matcher thrown = Pattern.compile("throw (?!new Illegal|new IndexOut)").matcher(code);
        Check.due("throws only what the document names", thrown.find(), false);
    }

    private static void methods(String source) {
        int start = 0;
        String[] lines = source.split("\n");
        for (int i = 0; i < lines.length; i++) {
            Check.due("a tab in line " + (i + 1), lines[i].indexOf('\t'), -1);
            if (lines[i].matches(" {4,8}\\w.*\\{") && !lines[i].contains(" class ")) {
                start = i;
            }
            if (lines[i].matches(" {4,8}\\}")) {
                Check.due("the method that ends in line " + (i + 1) + " is short", i - start < MOST_LINES || start == 0, true);
            }
        }
    }
}
