import java.io.IOException;
import java.lang.reflect.Constructor;
import java.lang.reflect.Field;
import java.lang.reflect.Method;
import java.lang.reflect.Modifier;
import java.nio.file.Files;
import java.nio.file.Path;
import java.util.ArrayList;
import java.util.List;
import java.util.Set;
import java.util.TreeSet;
import java.util.regex.Matcher;
import java.util.regex.Pattern;

/** The face is the document's, no more and no less; the source keeps to LANGUAGE.md as far as a look can tell. */
public final class FaceAndLanguage {
    private static final Path SOURCE = Path.of("src/main/java/HeavyThings.java");
    private static final Path DOCUMENT = Path.of("../shared/DOC.md");
    private static final Set<String> LIBRARY =
        Set.of("Math.max", "Math.min", "Math.abs", "System.arraycopy", "Arrays.fill", "Arrays.copyOf", "Arrays.copyOfRange");
    private static final int MOST_LINES = 60;

    private static int wrong = 0;

    private static void check(boolean holds, String what) {
        if (!holds) {
            wrong++;
            System.out.println(what);
        }
    }

    private static Set<String> faceOfDocument() throws IOException {
        String doc = Files.readString(DOCUMENT);
        String face = doc.substring(doc.indexOf("public final class HeavyThings"), doc.indexOf("## Terms"));
        Matcher m = Pattern.compile("public (int|boolean) (\\w+)\\(([^)]*)\\);").matcher(face);
        Set<String> all = new TreeSet<>();
        while (m.find()) {
            all.add(m.group(1) + " " + m.group(2) + "(" + m.group(3).replaceAll(" \\w+(,|$)", "$1").replace(" ", "") + ")");
        }
        return all;
    }

    private static Set<String> faceOfClass() {
        Set<String> all = new TreeSet<>();
        for (Method m : HeavyThings.class.getDeclaredMethods()) {
            if (Modifier.isPublic(m.getModifiers())) {
                List<String> types = new ArrayList<>();
                for (Class<?> p : m.getParameterTypes()) {
                    types.add(p.getName());
                }
                all.add(m.getReturnType().getName() + " " + m.getName() + "(" + String.join(",", types) + ")");
            }
        }
        return all;
    }

    private static void face() throws IOException, ReflectiveOperationException {
        Class<?> c = HeavyThings.class;
        Set<String> due = faceOfDocument();
        check(due.size() == 53, "the document's face has " + due.size() + " methods, not 53");
        check(faceOfClass().equals(due), "the face is " + faceOfClass() + ", due is " + due);
        check(c.getModifiers() == (Modifier.PUBLIC | Modifier.FINAL), "the class is not just public and final");
        Constructor<?>[] made = c.getDeclaredConstructors();
        check(made.length == 1 && made[0].getParameterCount() == 0 && Modifier.isPublic(made[0].getModifiers()), "the constructor");
        for (Field f : c.getDeclaredFields()) {
            boolean isPrivate = Modifier.isPrivate(f.getModifiers());
            check(isPrivate || f.getName().equals("NONE"), "the field " + f.getName() + " is not private");
        }
        Field none = c.getField("NONE");
        check(none.getInt(null) == -1 && Modifier.isFinal(none.getModifiers()), "NONE");
        for (Method m : c.getDeclaredMethods()) {
            boolean isFace = Modifier.isPublic(m.getModifiers());
            check(isFace || Modifier.isPrivate(m.getModifiers()), "the method " + m.getName() + " is seen from outside");
        }
    }

    private static void classes() {
        Set<String> names = new TreeSet<>();
        for (Method m : HeavyThings.class.getDeclaredMethods()) {
            if (Modifier.isPublic(m.getModifiers())) {
                names.add(m.getName());
            }
        }
        List<Class<?>> all = new ArrayList<>(List.of(HeavyThings.class.getDeclaredClasses()));
        all.add(HeavyThings.class);
        check(all.size() <= 12, "there are more than twelve classes");
        for (Class<?> c : all) {
            check(c == HeavyThings.class || Modifier.isStatic(c.getModifiers()), c + " is not static");
            int fields = 0;
            for (Field f : c.getDeclaredFields()) {
                fields += Modifier.isStatic(f.getModifiers()) ? 0 : 1;
                check(!Modifier.isStatic(f.getModifiers()) || Modifier.isFinal(f.getModifiers()), f + " is static, not final");
            }
            check(fields <= 20, c + " has more than twenty fields");
            for (Method m : c.getDeclaredMethods()) {
                check(m.getParameterCount() <= 7, m + " takes more than seven parameters");
                check(Modifier.isPublic(m.getModifiers()) || !names.contains(m.getName()), m + " bears a public name");
            }
        }
    }

    private static String withoutComments(String source) {
        return source.replaceAll("(?s)/\\*.*?\\*/", "").replaceAll("//[^\n]*", "");
    }

    private static void words(String source) {
        String code = withoutComments(source);
        String[] ruledOut = {"throw", "throws", "try", "catch", "finally", "synchronized", "assert", "package", "native", "volatile",
            "transient", "double", "float", "Object", "Thread", "Random", "Exception", "Error", "hashCode", "toString", "equals"};
        for (String word : ruledOut) {
            check(!Pattern.compile("\\b" + word + "\\b").matcher(code).find(), "the source has the word " + word);
        }
        check(!code.contains("->") && !code.contains("::"), "the source has a lambda or a method reference");
        check(!Pattern.compile("static\\s*\\{").matcher(code).find(), "the source has a static block");
        check(!code.contains("\"") && !code.contains("'"), "the source has texts");
        Matcher imports = Pattern.compile("import ([^;]+);").matcher(code);
        while (imports.find()) {
            check(imports.group(1).equals("java.util.Arrays"), "the source imports " + imports.group(1));
        }
        Matcher calls = Pattern.compile("\\b((?:Math|System|Arrays|Integer|Long|String)\\.\\w+)").matcher(code);
        while (calls.find()) {
            check(LIBRARY.contains(calls.group(1)), "the source uses " + calls.group(1));
        }
        check(source.chars().allMatch(ch -> ch < 128), "the source has signs above 127");
    }

    private static void methodsAreShort(String source) {
        int begun = -1;
        String[] lines = source.split("\n");
        for (int i = 0; i < lines.length; i++) {
            if (lines[i].matches(" {4,8}[a-z].*\\) \\{") && !lines[i].contains(" class ")) {
                begun = i;
            }
            if (lines[i].matches(" {4,8}}") && begun >= 0) {
                check(i - begun < MOST_LINES, "a method of more than " + MOST_LINES + " lines: " + lines[begun].trim());
                begun = -1;
            }
        }
    }

    public static void main(String[] args) throws IOException, ReflectiveOperationException {
        face();
        classes();
        String source = Files.readString(SOURCE);
        words(source);
        methodsAreShort(source);
        System.out.println(wrong == 0 ? "the face and the language are as due" : wrong + " rules are broken");
        if (wrong != 0) {
            System.exit(1);
        }
    }
}
