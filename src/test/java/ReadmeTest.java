import java.lang.reflect.Method;
import java.nio.file.Files;
import java.nio.file.Path;
import java.util.regex.Matcher;
import java.util.regex.Pattern;

/** What README.md tells of calls and of tests is so. */
public final class ReadmeTest {
    private static final Due due = new Due();

    public static void main(String[] args) throws Exception {
        String page = Files.readString(Path.of("README.md"));
        answers(page);
        due.is("the text told", Due.read(new FallCards(), "fall 10 wide 3; winged 30 wide 2 clip 1; wind 40;"), 2);
        names(page);
        due.end("ReadmeTest");
    }

    /** Each 'x.call(..);' with the number behind its '//', in the page's order, on one object. */
    private static void answers(String page) throws Exception {
        FallCards x = new FallCards();
        Matcher m = Pattern.compile("(?m)^x\\.(\\w+)\\(([^)]*)\\); *// (-?\\d+)").matcher(page);
        int lines = 0;
        while (m.find()) {
            lines++;
            String[] told = m.group(2).isEmpty() ? new String[0] : m.group(2).split(", ");
            Class<?>[] types = new Class<?>[told.length];
            Object[] numbers = new Object[told.length];
            for (int i = 0; i < told.length; i++) {
                types[i] = int.class;
                numbers[i] = Integer.parseInt(told[i]);
            }
            Method call = FallCards.class.getMethod(m.group(1), types);
            due.is(m.group(), (Integer) call.invoke(x, numbers), Integer.parseInt(m.group(3)));
        }
        due.is("lines with an answer", lines >= 30 ? 1 : 0, 1);
    }

    /** Every call and every test has its place on the page. */
    private static void names(String page) throws Exception {
        for (Method m : FallCards.class.getDeclaredMethods()) {
            if ((m.getModifiers() & java.lang.reflect.Modifier.PUBLIC) != 0) {
                due.is("README.md tells of " + m.getName(), page.contains("`" + m.getName() + "`") ? 1 : 0, 1);
            }
        }
        try (var files = Files.list(Path.of("src/test/java"))) {
            for (Path file : files.toList()) {
                String name = file.getFileName().toString().replace(".java", "");
                due.is("README.md tells of " + name, page.contains("`" + name + "`") ? 1 : 0, 1);
            }
        }
    }
}
