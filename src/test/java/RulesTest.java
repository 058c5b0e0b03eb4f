import java.io.IOException;
import java.lang.management.ManagementFactory;
import java.lang.reflect.Constructor;
import java.lang.reflect.Field;
import java.lang.reflect.Method;
import java.lang.reflect.Modifier;
import java.nio.file.Files;
import java.nio.file.Path;
import java.util.ArrayList;
import java.util.Arrays;
import java.util.Collections;
import java.util.List;
import java.util.regex.Matcher;
import java.util.regex.Pattern;

/** The face as the document writes it, the rules of LANGUAGE.md that a test can see, and the room. */
public final class RulesTest {
    private static final Check CHECK = new Check("RulesTest");
    private static final Path DOC = Path.of("../shared/DOC.md");
    private static final Path SOURCE = Path.of("src/main/java/CoalWood.java");

    public static void main(String[] args) throws IOException {
        face();
        source();
        room();
        CHECK.end();
    }

    private static void face() throws IOException {
        List<String> due = new ArrayList<>();
        Matcher m = Pattern.compile("    public ((?:int|long) \\w+\\(.*\\));").matcher(Files.readString(DOC));
        while (m.find()) {
            due.add(m.group(1).replaceAll("(int|long) (\\w+)([,)])", "$1$3"));
        }
        List<String> are = new ArrayList<>();
        List<String> names = new ArrayList<>();
        for (Method method : CoalWood.class.getDeclaredMethods()) {
            if (!Modifier.isPrivate(method.getModifiers()) && !method.isSynthetic()) {
                are.add(told(method));
                names.add(method.getName());
                CHECK.that("not public: " + method, Modifier.isPublic(method.getModifiers()));
            }
        }
        Collections.sort(due);
        Collections.sort(are);
        CHECK.that("methods are " + are + ", due are " + due, are.equals(due) && due.size() == 35);
        for (Class<?> inside : CoalWood.class.getDeclaredClasses()) {
            CHECK.that("not static: " + inside, Modifier.isStatic(inside.getModifiers()));
            for (Method method : inside.getDeclaredMethods()) {
                CHECK.that("has a public one's name: " + method, !names.contains(method.getName()));
            }
        }
        for (Method method : CoalWood.class.getDeclaredMethods()) {
            boolean isPrivate = Modifier.isPrivate(method.getModifiers());
            CHECK.that("has a public one's name: " + method, !isPrivate || !names.contains(method.getName()));
        }
        Constructor<?>[] made = CoalWood.class.getDeclaredConstructors();
        CHECK.that("constructors", made.length == 1 && made[0].getParameterCount() == 0);
        fields();
    }

    private static String told(Method method) {
        StringBuilder text = new StringBuilder(method.getReturnType() + " " + method.getName() + "(");
        for (Class<?> type : method.getParameterTypes()) {
            text.append(text.charAt(text.length() - 1) == '(' ? "" : ", ").append(type);
        }
        return text.append(")").toString();
    }

    private static void fields() {
        CHECK.that("final", Modifier.isFinal(CoalWood.class.getModifiers()));
        CHECK.due("NONE", CoalWood.NONE, -1);
        CHECK.due("BAD", CoalWood.BAD, -2);
        CHECK.due("NO", CoalWood.NO, -3);
        CHECK.due("FULL", CoalWood.FULL, -4);
        List<String> constants = Arrays.asList("NONE", "BAD", "NO", "FULL");
        List<Class<?>> all = new ArrayList<>(Arrays.asList(CoalWood.class.getDeclaredClasses()));
        all.add(CoalWood.class);
        CHECK.that("more than twelve classes", all.size() <= 12);
        for (Class<?> one : all) {
            int held = 0;
            for (Field field : one.getDeclaredFields()) {
                int is = field.getModifiers();
                held += Modifier.isStatic(is) ? 0 : 1;
                CHECK.that("static, not final: " + field, !Modifier.isStatic(is) || Modifier.isFinal(is));
                if (one == CoalWood.class) {
                    CHECK.that("seen outside: " + field, Modifier.isPrivate(is) || constants.contains(field.getName()));
                }
            }
            CHECK.that("more than twenty fields: " + one, held <= 20);
        }
    }

    private static void source() throws IOException {
        String source = Files.readString(SOURCE).replaceAll("(?s)/\\*.*?\\*/", "").replaceAll("//[^\n]*", "");
        String[] words = {
            "throw", "throws", "try", "catch", "finally", "synchronized", "assert", "Exact\\b", "System\\.(?!arraycopy)",
            "Random", "Thread", "hashCode", "toString", "var", "package"
        };
        for (String word : words) {
            CHECK.that("the source has " + word, !Pattern.compile("\\b" + word).matcher(source).find());
        }
        CHECK.that("the source has a lambda or a method reference", !source.contains("->") && !source.contains("::"));
        Matcher imports = Pattern.compile("import ([^;]+);").matcher(source);
        while (imports.find()) {
            CHECK.that("import " + imports.group(1), imports.group(1).matches("java\\.util\\.(Arrays|ArrayList|List)"));
        }
        library(source);
        Matcher methods = Pattern.compile("\n( {4}| {8})(?! )[^\n;=]*\\(([^)\n]*)\\) \\{\n(.*?)\n\\1\\}", Pattern.DOTALL).matcher(source);
        int found = 0;
        while (methods.find()) {
            found++;
            CHECK.that("longer than sixty lines: " + methods.group(), methods.group(3).split("\n").length <= 60);
            CHECK.that("more than seven parameters: " + methods.group(), methods.group(2).split(",").length <= 7);
        }
        CHECK.that("methods found", found > 80);
    }

    /** Rule 4: static functions of the library as they are listed; Arrays.fill over numbers alone. */
    private static void library(String source) {
        String listed = "Arrays\\.(fill|copyOf|copyOfRange)|System\\.arraycopy|(Math|Integer|Long)\\.\\w+";
        Matcher used = Pattern.compile("\\b(Arrays|System|Math|Integer|Long|String|List)\\.\\w+").matcher(source);
        while (used.find()) {
            CHECK.that("not in the list: " + used.group(), used.group().matches(listed));
        }
        Matcher filled = Pattern.compile("Arrays\\.fill\\((\\w+),").matcher(source);
        while (filled.find()) {
            boolean isNumbers = Pattern.compile("\\b(int|long)\\[\\] " + filled.group(1) + "\\b").matcher(source).find();
            CHECK.that("not numbers: " + filled.group(), isNumbers);
        }
    }

    /** Rows are made with the object: 500 calls of the dearest kinds make next to nothing. */
    private static void room() {
        com.sun.management.ThreadMXBean threads = (com.sun.management.ThreadMXBean) ManagementFactory.getThreadMXBean();
        long id = Thread.currentThread().getId();
        dearest(new CoalWood());
        CoalWood x = new CoalWood();
        long before = threads.getThreadAllocatedBytes(id);
        dearest(x);
        long bytes = threads.getThreadAllocatedBytes(id) - before;
        CHECK.that("calls made " + bytes + " bytes", bytes < 10000);
        before = threads.getThreadAllocatedBytes(id);
        new CoalWood();
        bytes = threads.getThreadAllocatedBytes(id) - before;
        CHECK.that("an object made " + bytes + " bytes", bytes < 20000);
    }

    private static void dearest(CoalWood x) {
        for (int k = 0; k < 8; k++) {
            x.lump(k % 6, k % 4, k % 2 + 1);
        }
        for (int k = 0; k < 10; k++) {
            x.evening(0);
        }
        x.type('p');
        x.type('i');
        x.type('t');
        x.type(';');
        for (int k = 0; k < 24; k++) {
            x.fewest(k % 10 - 1);
            x.rows();
            x.best(99, k % 2);
            x.cut(k % 6 + 1, k % 12);
            x.seen(k % 6 + 1, k % 13, -1);
            x.fits(1);
            x.look();
            x.glimpse(k % 12, k % 9, 0);
            x.walks();
            x.places(k % 12);
            x.leftTo();
            x.odds(k % 8, 0, 3);
            x.drawn(k, 60);
            x.image(k % 2);
            x.from(k % 2);
            x.burn(k % 8);
            x.undo();
            x.agree(k % 8);
            x.digest();
        }
        x.read();
    }
}
