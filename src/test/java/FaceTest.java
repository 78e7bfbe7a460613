import java.io.IOException;
import java.lang.reflect.Constructor;
import java.lang.reflect.Field;
import java.lang.reflect.Method;
import java.lang.reflect.Modifier;
import java.nio.file.Files;
import java.nio.file.Path;
import java.util.Arrays;
import java.util.List;
import java.util.Set;
import java.util.TreeSet;
import java.util.regex.Matcher;
import java.util.regex.Pattern;

/** The public face is the document's and no more, and the file keeps to the language's rules that can be seen. */
public final class FaceTest {
    private static final Check c = new Check("FaceTest");
    private static final Path SOURCE = Path.of("src/main/java/MonsoonTrade.java");
    private static final String I = "int", L = "long";

    public static void main(String[] args) throws IOException {
        face();
        members();
        fields(MonsoonTrade.class);
        for (Class<?> k : MonsoonTrade.class.getDeclaredClasses()) {
            fields(k);
        }
        words(Files.readString(SOURCE));
        methodsAreShort(Files.readAllLines(SOURCE));
        c.finish();
    }

    private static void face() {
        Set<String> due = new TreeSet<>();
        String[] rows = {
            "port 2", "wants 4", "price 2", "wind 2", "winds 4", "way 3", "dhow 3", "told 2", "good 2", "sell 3", "buy 3",
            "sail 2", "days 1", "lose 1", "heard 4", "venture 4", "ventureTold 2", "on 2", "begin 1", "end 1", "text 0",
            "force 1", "leg 4", "count 1", "sheet 3", "cell 3", "taken 2",
        };
        for (String row : rows) {
            String[] parts = row.split(" ");
            String[] types = new String[Integer.parseInt(parts[1])];
            Arrays.fill(types, I);
            due.add(I + " " + parts[0] + "(" + String.join(",", types) + ")");
        }
        due.add(I + " feed(" + I + "," + L + ")");
        due.add(L + " says(" + String.join(",", I, I, I, I, I, I, I) + ")");
        due.add(L + " order(" + String.join(",", I, I, I, I) + ")");
        Set<String> got = new TreeSet<>();
        for (Method m : MonsoonTrade.class.getDeclaredMethods()) {
            if (!Modifier.isPrivate(m.getModifiers())) {
                String[] types = Arrays.stream(m.getParameterTypes()).map(Class::getName).toArray(String[]::new);
                got.add(m.getReturnType().getName() + " " + m.getName() + "(" + String.join(",", types) + ")");
                c.holds("public and not static: " + m, m.getModifiers() == Modifier.PUBLIC);
            }
        }
        c.holds("the methods are the document's: " + got, got.equals(due));
    }

    private static void members() {
        c.due("public and final", MonsoonTrade.class.getModifiers(), Modifier.PUBLIC | Modifier.FINAL);
        Constructor<?>[] constructors = MonsoonTrade.class.getDeclaredConstructors();
        c.holds("one public constructor", constructors.length == 1 && constructors[0].getParameterCount() == 0
                && constructors[0].getModifiers() == Modifier.PUBLIC);
        Set<String> constants = new TreeSet<>();
        for (Field f : MonsoonTrade.class.getDeclaredFields()) {
            if (!Modifier.isPrivate(f.getModifiers())) {
                constants.add(f.getType() + " " + f.getName());
                c.due("public constant", f.getModifiers(), Modifier.PUBLIC | Modifier.STATIC | Modifier.FINAL);
            }
        }
        c.holds("constants " + constants,
                constants.equals(Set.of("int NONE", "int BAD", "int STATE", "int FULL", "long NO")));
        Set<String> open = new TreeSet<>();
        for (Method m : MonsoonTrade.class.getMethods()) {
            open.add(m.getName());
        }
        Class<?>[] inside = MonsoonTrade.class.getDeclaredClasses();
        c.holds("some twelve classes", inside.length <= 12);
        for (Class<?> k : inside) {
            c.holds("static " + k, Modifier.isStatic(k.getModifiers()) && !Modifier.isPublic(k.getModifiers()));
            for (Method m : k.getDeclaredMethods()) {
                c.holds("another name than a public one's: " + m, !open.contains(m.getName()));
                c.holds("seven parameters at most: " + m, m.getParameterCount() <= 7);
            }
        }
    }

    /** Rule 5: static fields are final constants of a few types; rule 11: some twenty fields beside these. */
    private static void fields(Class<?> k) {
        Set<Class<?>> constants = Set.of(int.class, long.class, boolean.class, char.class, String.class, int[].class,
                long[].class, char[].class, byte[].class);
        int own = 0;
        for (Field f : k.getDeclaredFields()) {
            if (!Modifier.isStatic(f.getModifiers())) {
                own++;
                continue;
            }
            c.holds("final: " + f, Modifier.isFinal(f.getModifiers()));
            c.holds("a constant's type: " + f, constants.contains(f.getType()));
        }
        c.holds("some twenty fields in " + k, own <= 20);
    }

    /** Rule 11: some sixty lines; a method's header and end stand at 4 signs in the class, at 8 in one inside. */
    private static void methodsAreShort(List<String> lines) {
        Pattern header = Pattern.compile("( {4}| {8})(?! )(?!.*\\b(class|interface|enum)\\b).*\\) \\{");
        for (int i = 0; i < lines.size(); i++) {
            Matcher m = header.matcher(lines.get(i));
            if (!m.matches()) {
                continue;
            }
            int end = i;
            while (end < lines.size() && !lines.get(end).equals(m.group(1) + "}")) {
                end++;
            }
            c.holds("some sixty lines: " + lines.get(i), end - i < 60);
        }
    }

    private static void words(String source) {
        String code = source.replaceAll("(?s)/\\*.*?\\*/", "").replaceAll("//[^\n]*", "");
        String ruledOut = "throw|throws|try|catch|finally|synchronized|assert|package|Object|Map|Set|System\\.(?!arraycopy)\\w+"
                + "|\\w+Exact|->|::|equals|hashCode|toString|random|Thread";
        Matcher m = Pattern.compile("(?<!\\w)(" + ruledOut + ")(?!\\w)").matcher(code);
        while (m.find()) {
            c.holds("ruled out: " + m.group(), false);
        }
        Matcher imports = Pattern.compile("import ([\\w.]+);").matcher(code);
        while (imports.find()) {
            c.holds("import " + imports.group(1), imports.group(1).equals("java.util.Arrays"));
        }
        c.holds("no text is joined by +", !Pattern.compile("\"\\s*\\+|\\+\\s*\"").matcher(code).find());
        c.holds("plain signs", source.chars().allMatch(b -> b == 10 || b >= 32 && b < 127));
    }
}
