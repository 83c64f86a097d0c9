import java.io.IOException;
import java.lang.reflect.Constructor;
import java.lang.reflect.Field;
import java.lang.reflect.Method;
import java.lang.reflect.Modifier;
import java.nio.charset.StandardCharsets;
import java.nio.file.Files;
import java.nio.file.Path;
import java.util.Arrays;
import java.util.List;
import java.util.Set;
import java.util.TreeSet;

/** What of the language's rules a machine can look at: the face, the fields, the words of the source. */
public final class RulesTest {
    private static final List<String> FACE = List.of("int feed(int,int,int,int,int)", "boolean end(int)", "int town()",
        "int fault()", "int person(int,int)", "int deal(int,int)", "int does(int,int)", "int undo()", "int book()",
        "int why()", "int is(int,int)", "int may(int)", "int had(int)", "int gain(int)", "int best()", "int bestParts()",
        "int goes(int)", "int above(int)", "int price(int,int)", "int loss(int,int)", "int climb(int)", "int climbed()",
        "int told()", "int own(int,int)", "int rests(int)", "int rounds(int)", "int ended(int)", "int one(int,int)",
        "int oneBy(int,int,int)", "int lawful()", "int lawfulBy(int)", "int oneIs(int)", "int fewest()", "int meet()",
        "int must(int)", "int wrongly()", "int between(int)", "int run(int)", "int refused()", "boolean image(int)",
        "boolean restore(int)", "int count(int)");

    public static void main(String[] args) throws IOException {
        face();
        classes();
        source();
        Due.end();
    }

    private static void holds(String what, boolean holds) {
        Due.is(what, 1, holds ? 1 : 0);
    }

    private static void face() {
        Set<String> found = new TreeSet<>();
        Set<String> publicNames = new TreeSet<>();
        for (Method m : LendTown.class.getDeclaredMethods()) {
            if (Modifier.isPublic(m.getModifiers())) {
                String types = String.join(",", Arrays.stream(m.getParameterTypes()).map(Class::getName).toList());
                found.add(m.getReturnType().getName() + " " + m.getName() + "(" + types + ")");
                publicNames.add(m.getName());
            }
        }
        holds("the face is " + found, found.equals(new TreeSet<>(FACE)));
        for (Method m : LendTown.class.getDeclaredMethods()) {
            boolean isPrivate = Modifier.isPrivate(m.getModifiers());
            holds(m + " is public or private", isPrivate || Modifier.isPublic(m.getModifiers()));
            holds(m + " has a name of its own", !isPrivate || !publicNames.contains(m.getName()));
        }
        for (Field f : LendTown.class.getDeclaredFields()) {
            holds(f + " is private", f.getName().equals("NONE") || Modifier.isPrivate(f.getModifiers()));
        }
        Constructor<?>[] constructors = LendTown.class.getDeclaredConstructors();
        holds("one constructor", constructors.length == 1 && constructors[0].getParameterCount() == 0);
        holds("public and final", LendTown.class.getModifiers() == (Modifier.PUBLIC | Modifier.FINAL));
    }

    private static void classes() {
        Class<?>[] inside = LendTown.class.getDeclaredClasses();
        holds("some twelve classes", inside.length <= 12);
        for (Class<?> c : inside) {
            holds(c + " is private and static", (c.getModifiers() & (Modifier.PRIVATE | Modifier.STATIC)) == (Modifier.PRIVATE | Modifier.STATIC));
            holds(c + " has some twenty fields", Arrays.stream(c.getDeclaredFields()).filter(f -> !Modifier.isStatic(f.getModifiers())).count() <= 20);
            for (Field f : c.getDeclaredFields()) {
                holds(f + " is no static state", !Modifier.isStatic(f.getModifiers()) || Modifier.isFinal(f.getModifiers()));
            }
            for (Method m : c.getDeclaredMethods()) {
                holds(m + " has seven parameters at most", m.getParameterCount() <= 7);
            }
        }
    }

    private static void source() throws IOException {
        String text = Files.readString(Path.of("src/main/java/LendTown.java"), StandardCharsets.ISO_8859_1);
        holds("signs 10, 32 to 126", text.chars().allMatch(c -> c == 10 || c >= 32 && c <= 126));
        for (String word : List.of("->", "::", "catch", "finally", "synchronized", "assert", "Exact", "lambda", "@Override",
            "Object", "hashCode", "equals(", "toString", "System.out", "Random", "while (true)", "for (;;)", "String.")) {
            holds("no " + word, !text.contains(word));
        }
        List<String> imports = text.lines().filter(l -> l.startsWith("import")).toList();
        holds("imports", imports.equals(List.of("import java.util.Arrays;", "import java.util.NoSuchElementException;")));
        int start = 0;
        int number = 0;
        boolean inConstructorOrField = false;
        for (String line : text.lines().toList()) {
            number++;
            if (line.matches("( {4}| {8})[A-Za-z].*\\{") && !line.contains(" class ")) {
                start = number;
                inConstructorOrField = line.matches(" +(public )?[A-Z][A-Za-z]*\\(.*");
            }
            if (line.equals("    }") || line.equals("        }")) {
                holds("line " + number + ": methods are short", number - start <= 60);
                inConstructorOrField = false;
            }
            boolean makes = line.contains("new ") && !line.contains("throw new ") && !line.trim().startsWith("*") && !line.trim().startsWith("/**");
            boolean field = line.matches(" {4,8}(private )?(static )?(final )?[A-Za-z\\[\\]]+ [a-zA-Z]+ = new .*");
            holds("line " + number + ": a call makes no object", !makes || field || inConstructorOrField);
        }
    }
}
