import java.lang.reflect.Constructor;
import java.lang.reflect.Field;
import java.lang.reflect.Method;
import java.lang.reflect.Modifier;
import java.nio.charset.StandardCharsets;
import java.nio.file.Files;
import java.nio.file.Path;
import java.util.Arrays;
import java.util.Set;
import java.util.TreeSet;
import java.util.regex.Matcher;
import java.util.regex.Pattern;

/** The face of the class as the document has it, and the rules of LANGUAGE.md that its text and its parts can tell. */
public final class FaceTest {
    private static final String[] FACE = {"feed 5", "end 1", "book 0", "fault 1", "about 1", "name 3", "team 2", "lane 1", "place 2", "comes 2",
        "order 2", "boldest 1", "changes 2", "cutIn 1", "behind 2", "crowd 2", "fastest 2", "leg 3", "inBox 2", "act 2", "fact 2", "rule 2",
        "holds 3", "why 4", "struckBy 2", "clean 2", "free 2", "struck 2", "rank 1", "result 1", "who 1", "would 1", "fairRank 1", "margin 1",
        "impeders 1", "again 0", "winner 1", "stays 2", "appeal 3", "waive 1", "measure 4", "undo 0"};
    private static int wrong = 0;

    public static void main(String[] args) throws Exception {
        face();
        parts();
        text(Files.readString(Path.of(args.length > 0 ? args[0] : "src/main/java/BatonZones.java"), StandardCharsets.UTF_8));
        System.out.println(wrong == 0 ? "the face and the text are as due" : wrong + " wrong");
        if (wrong != 0) {
            System.exit(1);
        }
    }

    private static void must(boolean is, String what) {
        if (!is) {
            wrong++;
            System.out.println(what);
        }
    }

    private static void face() {
        Set<String> due = new TreeSet<>(Arrays.asList(FACE));
        Set<String> is = new TreeSet<>();
        for (Method m : BatonZones.class.getDeclaredMethods()) {
            boolean open = Modifier.isPublic(m.getModifiers());
            must(open || Modifier.isPrivate(m.getModifiers()), "neither public nor private: " + m);
            if (open) {
                is.add(m.getName() + " " + m.getParameterCount());
                must(m.getReturnType() == int.class && !Modifier.isStatic(m.getModifiers()), "not as due: " + m);
                for (Class<?> p : m.getParameterTypes()) {
                    must(p == int.class, "not as due: " + m);
                }
            }
        }
        must(due.equals(is), "the face is " + is);
        for (Field f : BatonZones.class.getDeclaredFields()) {
            boolean open = Modifier.isPublic(f.getModifiers());
            must(open == f.getName().equals("NONE"), "not as due: " + f);
            must(open || Modifier.isPrivate(f.getModifiers()), "neither public nor private: " + f);
        }
        Constructor<?>[] made = BatonZones.class.getDeclaredConstructors();
        must(made.length == 1 && made[0].getParameterCount() == 0 && Modifier.isPublic(made[0].getModifiers()), "the constructor");
        must(Modifier.isFinal(BatonZones.class.getModifiers()) && BatonZones.NONE == -1, "final, NONE");
    }

    private static void parts() {
        Set<String> open = new TreeSet<>();
        for (String f : FACE) {
            open.add(f.substring(0, f.indexOf(' ')));
        }
        Class<?>[] inside = BatonZones.class.getDeclaredClasses();
        must(inside.length <= 11, "more than some twelve classes");
        for (Class<?> c : inside) {
            must(Modifier.isStatic(c.getModifiers()) && !Modifier.isPublic(c.getModifiers()), "not static and hidden: " + c);
            members(c, open);
        }
        members(BatonZones.class, open);
    }

    private static void members(Class<?> c, Set<String> open) {
        int fields = 0;
        for (Field f : c.getDeclaredFields()) {
            boolean isStatic = Modifier.isStatic(f.getModifiers());
            fields += isStatic ? 0 : 1;
            must(!isStatic || Modifier.isFinal(f.getModifiers()), "static and not final: " + f);
            must(!isStatic || f.getType().isPrimitive() || f.getType() == String.class, "no constant: " + f);
        }
        must(fields <= 20, "more than some twenty fields: " + c);
        for (Method m : c.getDeclaredMethods()) {
            must(m.getParameterCount() <= 7, "more than seven parameters: " + m);
            boolean hidden = c != BatonZones.class || Modifier.isPrivate(m.getModifiers());
            must(!hidden || !open.contains(m.getName()), "bears the name of a public one: " + m);
            must(!m.isSynthetic(), "made by a lambda: " + m);
        }
    }

    /** Comments, texts and signs are blanked first. */
    private static void text(String source) {
        for (char sign : source.toCharArray()) {
            must(sign < 127, "a sign beyond 126");
        }
        String code = source.replaceAll("(?s)/\\*.*?\\*/", " ").replaceAll("//[^\n]*", " ")
            .replaceAll("\"(\\\\.|[^\"\\\\])*\"", "\"\"").replaceAll("'(\\\\.|[^'\\\\])'", "' '");
        for (String word : new String[] {"throw", "throws", "try", "catch", "finally", "synchronized", "assert", "double", "float", "Object",
            "System", "Thread", "equals", "hashCode", "toString", "volatile", "native", "var", "yield", "protected", "package"}) {
            must(!Pattern.compile("\\b" + word + "\\b").matcher(code).find(), "stands in it: " + word);
        }
        for (String piece : new String[] {"->", "::", "Exact(", "static {", "@", "\"\" +", "+ \"\""}) {
            must(!code.contains(piece), "stands in it: " + piece);
        }
        must(!Pattern.compile("\\bnew\\s+\\w+\\([^;{]*\\)\\s*\\{").matcher(code).find(), "a class without a name");
        must(!Pattern.compile("\\b(Integer|Long|Math)\\.[A-Z]").matcher(code).find(), "a constant of the library");
        must(!Pattern.compile("(String|Team|Act|Book)\\s*\\[\\]\\s*\\[\\]").matcher(code).find(), "two dimensions of objects");
        Matcher imports = Pattern.compile("import\\s+([\\w.*]+)").matcher(code);
        while (imports.find()) {
            must(imports.group(1).equals("java.util.Arrays"), "import " + imports.group(1));
        }
        methods(code);
    }

    private static void methods(String code) {
        String[] lines = code.split("\n", -1);
        int begun = -1;
        String end = "";
        for (int i = 0; i < lines.length; i++) {
            if (lines[i].matches("( {4}| {8})(public|private|static|int|long|void|boolean|Team|Act|[A-Z]\\w*\\()[^=]*\\) \\{")) {
                begun = i;
                end = lines[i].substring(0, lines[i].length() - lines[i].stripLeading().length()) + "}";
            } else if (begun >= 0 && lines[i].equals(end)) {
                must(i - begun < 60, "a method of " + (i - begun + 1) + " lines: " + lines[begun].trim());
                begun = -1;
            }
        }
    }
}
