import java.lang.reflect.Constructor;
import java.lang.reflect.Field;
import java.lang.reflect.Method;
import java.lang.reflect.Modifier;
import java.nio.file.Files;
import java.nio.file.Path;
import java.util.Arrays;
import java.util.Set;
import java.util.TreeSet;
import java.util.regex.Matcher;
import java.util.regex.Pattern;

/** The public face, and what the rules of the language leave out of the source. */
public final class LanguageTest {
    private static int wrong = 0;

    private static void must(boolean holds, String what) {
        if (!holds) {
            wrong++;
            System.out.println("not so: " + what);
        }
    }

    private static final String[] FACE = {
        "int points(int)", "int join(int,int)", "int part(int)", "int at(int)", "int number(int)",
        "int height(int)", "int shape()", "int mirror()", "long many(int,int,int)", "int row(int,long)",
        "long place()", "int worth(int)", "int sign(int)", "int draw()", "int letter(int)", "int wipe()",
        "int score(int,int,int)", "int set(int,int)", "int best()", "long folds(int)", "int fold()",
        "int judge()", "int count(int)"
    };

    private static String shown(Method m) {
        StringBuilder text = new StringBuilder(m.getReturnType().getName()).append(' ').append(m.getName()).append('(');
        String comma = "";
        for (Class<?> type : m.getParameterTypes()) {
            text.append(comma).append(type.getName());
            comma = ",";
        }
        return text.append(')').toString();
    }

    private static void face() {
        Class<?> c = ChordFolds.class;
        must(Modifier.isPublic(c.getModifiers()) && Modifier.isFinal(c.getModifiers()), "public and final");
        Set<String> names = new TreeSet<>();
        Set<String> methods = new TreeSet<>();
        for (Method m : c.getDeclaredMethods()) {
            if (!Modifier.isPrivate(m.getModifiers())) {
                must(Modifier.isPublic(m.getModifiers()) && !Modifier.isStatic(m.getModifiers()), m + " is of the face");
                methods.add(shown(m));
                names.add(m.getName());
            }
        }
        must(methods.equals(new TreeSet<>(Arrays.asList(FACE))), "methods are those of the document: " + methods);
        Set<String> fields = new TreeSet<>();
        for (Field f : c.getDeclaredFields()) {
            if (!Modifier.isPrivate(f.getModifiers())) {
                fields.add(Modifier.toString(f.getModifiers()) + " " + f.getType() + " " + f.getName());
            }
        }
        String form = "public static final int ";
        must(fields.equals(Set.of(form + "NONE", form + "BAD", form + "NOT", form + "FULL")), "constants: " + fields);
        Constructor<?>[] made = c.getDeclaredConstructors();
        must(made.length == 1 && made[0].getParameterCount() == 0 && Modifier.isPublic(made[0].getModifiers()),
            "one public constructor");
        for (Class<?> inside : c.getDeclaredClasses()) {
            must(Modifier.isStatic(inside.getModifiers()), inside + " is static");
            for (Method m : inside.getDeclaredMethods()) {
                must(!names.contains(m.getName()), m + " has a name of its own");
                must(m.getParameterCount() <= 7, m + " has seven parameters at most");
            }
            must(inside.getDeclaredFields().length <= 20, inside + " has few fields");
        }
    }

    private static String withoutComments(String source) {
        return Pattern.compile("/\\*.*?\\*/|//[^\n]*", Pattern.DOTALL).matcher(source).replaceAll(" ");
    }

    private static void words() throws Exception {
        String code = withoutComments(Files.readString(Path.of("src/main/java/ChordFolds.java")));
        String[] out = {"throw", "throws", "try", "catch", "synchronized", "assert", "package", "protected", "->",
            "::", "\\w+Exact", "Random", "Thread", "currentTimeMillis", "nanoTime", "File"};
        for (String word : out) {
            String edge = Character.isLetter(word.charAt(0)) || word.startsWith("\\") ? "\\b" : "";
            Matcher m = Pattern.compile(edge + word + edge).matcher(code);
            must(!m.find(), "the source does without " + word);
        }
        Matcher imports = Pattern.compile("\\bimport\\s+([\\w.*]+)").matcher(code);
        while (imports.find()) {
            must(imports.group(1).equals("java.util.Arrays"), "import of " + imports.group(1));
        }
        Matcher library = Pattern.compile("\\b(Arrays|Math|System)\\.(\\w+)").matcher(code);
        Set<String> listed = Set.of("fill", "max", "min", "arraycopy");
        while (library.find()) {
            must(listed.contains(library.group(2)), "use of " + library.group());
        }
    }

    public static void main(String[] args) throws Exception {
        face();
        words();
        System.out.println(wrong == 0 ? "the rules hold" : wrong + " rules do not hold");
        if (wrong != 0) {
            System.exit(1);
        }
    }
}
