import java.lang.reflect.InvocationTargetException;
import java.lang.reflect.Method;
import java.lang.reflect.Modifier;
import java.nio.charset.StandardCharsets;
import java.nio.file.Files;
import java.nio.file.Path;
import java.util.ArrayList;
import java.util.List;
import java.util.regex.Matcher;
import java.util.regex.Pattern;

/** README.md, as it stands: the book it tells, the answers it shows, the calls and the tests it names. */
public final class ReadmeTest {
    private static final Pattern SHOWN = Pattern.compile("(?m)^zones\\.(\\w+)\\(([-0-9, ]*)\\); *// (-?\\d+)$");
    private static final int LINES_OF_BOOK = 16;
    private static final int LEAST_SHOWN = 20;
    private static int wrong = 0;

    public static void main(String[] args) throws Exception {
        String page = Files.readString(Path.of("README.md"), StandardCharsets.UTF_8);
        List<String> blocks = blocks(page);
        must(blocks.size() == 3, "README.md has " + blocks.size() + " blocks, not the book, tell(), the answers");
        if (wrong == 0) {
            BatonZones zones = new BatonZones();
            must(tell(zones, blocks.get(0)) == LINES_OF_BOOK, "the book has fault " + zones.fault(0) + " at " + zones.fault(1));
            must(isInThisTest(blocks.get(1)), "tell() is not as this test has it");
            answers(zones, blocks.get(2));
        }
        names(page);
        System.out.println(wrong == 0 ? "README.md is as the class is" : wrong + " wrong");
        if (wrong != 0) {
            System.exit(1);
        }
    }

    private static void must(boolean is, String what) {
        if (!is) {
            wrong++;
            System.out.println(what);
        }
    }

    private static List<String> blocks(String page) {
        List<String> blocks = new ArrayList<>();
        Matcher block = Pattern.compile("(?s)```(?:text|java)\n(.*?)```").matcher(page);
        while (block.find()) {
            blocks.add(block.group(1));
        }
        return blocks;
    }

    static int tell(BatonZones zones, String text) {
        for (int i = 0; i < text.length(); i += 20) {
            int[] n = new int[5];
            for (int j = 0; j < 20 && i + j < text.length(); j++) {
                n[j / 4] |= text.charAt(i + j) << 24 - 8 * (j % 4);
            }
            zones.feed(n[0], n[1], n[2], n[3], n[4]);
        }
        zones.end(text.length());
        return zones.book();
    }

    private static boolean isInThisTest(String method) throws Exception {
        String own = Files.readString(Path.of("src/test/java/ReadmeTest.java"), StandardCharsets.UTF_8);
        return own.contains(method.indent(4));
    }

    private static void answers(BatonZones zones, String block) throws IllegalAccessException, InvocationTargetException {
        Matcher shown = SHOWN.matcher(block);
        int count = 0;
        while (shown.find()) {
            Object[] asked = numbers(shown.group(2));
            Object got = method(shown.group(1)).invoke(zones, asked);
            must(got.equals(Integer.valueOf(shown.group(3))), shown.group() + ", but the class answers " + got);
            count++;
        }
        must(count >= LEAST_SHOWN && count == block.lines().count(), "only " + count + " lines show an answer");
    }

    private static Object[] numbers(String text) {
        if (text.isEmpty()) {
            return new Object[0];
        }
        String[] each = text.split(", ");
        Object[] numbers = new Object[each.length];
        for (int i = 0; i < each.length; i++) {
            numbers[i] = Integer.valueOf(each[i]);
        }
        return numbers;
    }

    private static Method method(String name) {
        for (Method m : BatonZones.class.getMethods()) {
            if (m.getName().equals(name) && m.getDeclaringClass() == BatonZones.class) {
                return m;
            }
        }
        throw new IllegalStateException("README.md asks " + name + ", which there is not");
    }

    private static void names(String page) throws Exception {
        for (Method m : BatonZones.class.getDeclaredMethods()) {
            boolean named = Pattern.compile("[`.]" + m.getName() + "[`(]").matcher(page).find();
            must(named || !Modifier.isPublic(m.getModifiers()), "README.md does not name the call " + m.getName());
        }
        try (var tests = Files.list(Path.of("src/test/java"))) {
            for (Path test : (Iterable<Path>) tests::iterator) {
                String name = test.getFileName().toString().replace(".java", "");
                must(page.contains("`" + name + "`"), "README.md does not name the test " + name);
            }
        }
    }
}
