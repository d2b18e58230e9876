import java.lang.reflect.Constructor;
import java.lang.reflect.Field;
import java.lang.reflect.Method;
import java.lang.reflect.Modifier;
import java.nio.file.Files;
import java.nio.file.Path;
import java.util.ArrayList;
import java.util.List;
import java.util.Map;
import java.util.Set;
import java.util.TreeMap;
import java.util.TreeSet;
import java.util.regex.Matcher;
import java.util.regex.Pattern;

/** The public face, and the rules of LANGUAGE.md that can be seen from outside. */
public final class FaceTest {
    private static final String[] FACE = {
        "act(int,int,int)", "again()", "aim(int,int,int,int)", "air(int)", "alterRow(int,int,int)", "card(int,int,int,int)",
        "cardOf(int,int)", "cards()", "fall(int,int,int,int,int)", "feed(long,int)", "fit(int,int,int,int,int,int)",
        "gust(int,int)", "hand(int,int)", "item(int,int,int)", "judge()", "keep()", "letGo(int,int,int,int)",
        "line(int,int,int,int,int)", "longest(int,int,int)", "many(int)", "miss(int,int,int,int,int)",
        "odds(int,int,int,int,int,int)", "parted(int,int,int,int,int)", "prove(int)", "put(int,int,int)", "row(int,int)",
        "seed(int)", "set(int,int)", "sheet(int,int,int)", "shelf(int,int,int)", "sine(int)", "taken(int,int)", "tick(int)",
        "toss(int,int,int,int)", "trace(int)"};

    public static void main(String[] args) throws Exception {
        Due due = new Due();
        Set<String> open = new TreeSet<>();
        Set<String> names = new TreeSet<>();
        for (Method m : FallCards.class.getDeclaredMethods()) {
            if (!Modifier.isPrivate(m.getModifiers()) && !m.isSynthetic()) {
                StringBuilder b = new StringBuilder(m.getName()).append('(');
                for (Class<?> c : m.getParameterTypes()) {
                    b.append(b.charAt(b.length() - 1) == '(' ? "" : ",").append(c);
                }
                open.add(b.append(')').toString());
                names.add(m.getName());
                due.is(m.getName() + " is public and answers an int",
                    Modifier.isPublic(m.getModifiers()) && m.getReturnType() == int.class ? 1 : 0, 1);
            }
        }
        due.is("the methods are those of the document: " + open, open.equals(new TreeSet<>(Set.of(FACE))) ? 1 : 0, 1);
        for (Method m : FallCards.class.getDeclaredMethods()) {
            if (Modifier.isPrivate(m.getModifiers())) {
                due.is("private " + m.getName() + " bears a public name", names.contains(m.getName()) ? 1 : 0, 0);
            }
        }
        Map<String, Integer> constants = new TreeMap<>();
        for (Field f : FallCards.class.getDeclaredFields()) {
            if (!Modifier.isPrivate(f.getModifiers())) {
                constants.put(f.getName(), f.getInt(null));
            }
        }
        Map<String, Integer> told = Map.of("BAD", -1, "FULL", -2, "NONE", -3, "STATE", -4, "NO", Integer.MIN_VALUE);
        due.is("the constants " + constants, constants.equals(told) ? 1 : 0, 1);
        Constructor<?>[] made = FallCards.class.getDeclaredConstructors();
        due.is("constructors", made.length, 1);
        due.is("its parameters", made[0].getParameterCount(), 0);
        due.is("final", Modifier.isFinal(FallCards.class.getModifiers()) ? 1 : 0, 1);
        for (Class<?> c : FallCards.class.getDeclaredClasses()) {
            due.is(c + " is static and not public", c.getModifiers() & (Modifier.STATIC | Modifier.PUBLIC | Modifier.PROTECTED),
                Modifier.STATIC);
        }
        sizes(due);
        words(due);
        due.end("FaceTest");
    }

    /** Rules 5 and 11: what static fields are, and how much there is of each thing. */
    private static void sizes(Due due) {
        List<Class<?>> classes = new ArrayList<>(List.of(FallCards.class.getDeclaredClasses()));
        classes.add(FallCards.class);
        due.is("classes, twelve at most: " + classes.size(), classes.size() <= 12 ? 1 : 0, 1);
        Set<Class<?>> constants = Set.of(int.class, long.class, boolean.class, char.class, String.class, int[].class, long[].class,
            char[].class, byte[].class);
        for (Class<?> c : classes) {
            int fields = 0;
            for (Field f : c.getDeclaredFields()) {
                boolean isStatic = Modifier.isStatic(f.getModifiers());
                fields += isStatic ? 0 : 1;
                due.is("the static field " + f + " is a constant",
                    !isStatic || Modifier.isFinal(f.getModifiers()) && constants.contains(f.getType()) ? 1 : 0, 1);
            }
            due.is("fields of " + c + ", twenty at most: " + fields, fields <= 20 ? 1 : 0, 1);
            for (Method m : c.getDeclaredMethods()) {
                due.is("parameters of " + m + ", seven at most", m.getParameterCount() <= 7 ? 1 : 0, 1);
            }
        }
    }

    private static void words(Due due) throws Exception {
        String code = Files.readString(Path.of("src/main/java/FallCards.java"));
        code = code.replaceAll("(?s)/\\*.*?\\*/", "").replaceAll("//[^\n]*", "").replaceAll("\"[^\"\n]*\"", "\"\"");
        Matcher m = Pattern.compile("\\b(throw|throws|try|catch|synchronized|assert|import|package|protected|double|float|Object"
            + "|hashCode|toString|\\w+Exact)\\b|->|::").matcher(code);
        while (m.find()) {
            due.is("'" + m.group() + "' in the code", 1, 0);
        }
        due.is("the code was read", code.contains("class FallCards") ? 1 : 0, 1);
        Matcher body = Pattern.compile("(?m)^( +)[^ \n][^\n]*\\) \\{\n(?s:.*?)^\\1\\}").matcher(code);
        int bodies = 0;
        while (body.find()) {
            bodies++;
            String head = body.group().substring(0, body.group().indexOf('\n')).trim();
            due.is("lines of " + head + ", sixty at most", body.group().split("\n").length <= 60 ? 1 : 0, 1);
        }
        due.is("bodies were read", bodies > 100 ? 1 : 0, 1);
    }
}
