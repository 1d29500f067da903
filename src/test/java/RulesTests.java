import java.lang.reflect.Constructor;
import java.lang.reflect.Field;
import java.lang.reflect.Method;
import java.lang.reflect.Modifier;
import java.nio.charset.StandardCharsets;
import java.nio.file.Files;
import java.nio.file.Path;
import java.util.Arrays;
import java.util.List;
import java.util.Set;
import java.util.TreeSet;
import java.util.regex.Matcher;
import java.util.regex.Pattern;

/** The public face, and what of ../shared/LANGUAGE.md can be seen without running the class. Run from the project's root. */
public final class RulesTests {
    private static final String SOURCE = "src/main/java/TiedToTown.java";
    private static final List<String> FACE = List.of(
        "write(int,long)", "wipe()", "fault()", "lay()", "knot(int,int)", "person(int,int)", "may(int)", "undo(int)",
        "tie(int,int,int,int,int)", "pull(int)", "cut(int)", "days(int)", "takeBack()", "loosen(int)", "pay(int)",
        "forEver()", "frees(int)", "fresh(int,int,int)", "orders()", "tell(int)", "noRow()", "judge()", "cross(int,int)",
        "smooth(int)", "loose(int,int)", "alike()", "mark(int,int)", "year(int,int,int)", "keep()", "back()", "count(int)");
    private static final List<String> CONSTANTS = List.of("BAD", "NO", "FULL", "NONE");

    private static int wrong = 0;

    private static void must(boolean so, String what) {
        if (!so) {
            wrong++;
            System.out.println("not so: " + what);
        }
    }

    public static void main(String[] args) throws Exception {
        face();
        insideClasses();
        source();
        System.out.println(wrong == 0 ? "the rules are kept" : wrong + " rules are not kept");
        if (wrong != 0) {
            System.exit(1);
        }
    }

    private static String signature(Method m) {
        StringBuilder s = new StringBuilder(m.getName()).append('(');
        for (Class<?> type : m.getParameterTypes()) {
            s.append(s.charAt(s.length() - 1) == '(' ? "" : ",").append(type.getName());
        }
        return s.append(')').toString();
    }

    private static void face() {
        Class<?> c = TiedToTown.class;
        must(c.getModifiers() == (Modifier.PUBLIC | Modifier.FINAL), "the class is public and final");
        must(c.getSuperclass() == Object.class && c.getInterfaces().length == 0, "it extends nothing");
        Set<String> found = new TreeSet<>();
        Set<String> names = new TreeSet<>();
        for (Method m : c.getDeclaredMethods()) {
            if (Modifier.isPublic(m.getModifiers())) {
                must(m.getModifiers() == Modifier.PUBLIC && m.getReturnType() == int.class, m + " is of the face");
                found.add(signature(m));
                names.add(m.getName());
            }
        }
        must(found.equals(new TreeSet<>(FACE)), "the public methods are those of the document: " + found);
        for (Method m : c.getDeclaredMethods()) {
            boolean isPrivate = Modifier.isPrivate(m.getModifiers());
            must(Modifier.isPublic(m.getModifiers()) || isPrivate, m + " is public or private");
            must(!isPrivate || !names.contains(m.getName()), m + " has a name of its own");
        }
        Constructor<?>[] made = c.getDeclaredConstructors();
        must(made.length == 1 && made[0].getModifiers() == Modifier.PUBLIC && made[0].getParameterCount() == 0, "one constructor");
        for (Field f : c.getDeclaredFields()) {
            int how = f.getModifiers();
            boolean constant = CONSTANTS.contains(f.getName());
            must(constant == Modifier.isPublic(how) && constant != Modifier.isPrivate(how), f + " is as public as told");
            must(!Modifier.isStatic(how) || Modifier.isFinal(how), f + " is final if static");
        }
    }

    private static void insideClasses() {
        Class<?>[] inside = TiedToTown.class.getDeclaredClasses();
        must(inside.length <= 11, "some twelve classes");
        for (Class<?> c : inside) {
            must(Modifier.isStatic(c.getModifiers()), c + " is static");
            must(!Modifier.isPublic(c.getModifiers()) && !Modifier.isProtected(c.getModifiers()), c + " is not public");
            must(c.getDeclaredFields().length <= 20, c + " has few fields");
            for (Method m : c.getDeclaredMethods()) {
                must(m.getParameterCount() <= 7, m + " takes seven at most");
            }
        }
    }

    private static void source() throws Exception {
        byte[] bytes = Files.readAllBytes(Path.of(SOURCE));
        for (byte b : bytes) {
            must(b == '\n' || b >= ' ' && b < 127, "a plain sign, not " + b);
        }
        String code = withoutComments(new String(bytes, StandardCharsets.US_ASCII));
        String[] never = {"throw", "throws", "try", "catch", "finally", "synchronized", "assert", "package", "import", "Exact",
            "hashCode", "toString", "equals", "static\\s*\\{", "->", "::", "new\\s+Thread", "while\\s*\\(true", "for\\s*\\(;;",
            "random", "Random", "System", "Object", "\"", "float", "double"};
        for (String word : never) {
            String sought = Character.isLetter(word.charAt(0)) && !word.contains("\\") ? "\\b" + word + "\\b" : word;
            must(!Pattern.compile(sought).matcher(code).find(), "without " + word);
        }
        Matcher library = Pattern.compile("\\b(Integer|Long|Math|Arrays|String|StringBuilder|ArrayList|List)\\.(\\w+)").matcher(code);
        while (library.find()) {
            must(Set.of("Integer.bitCount", "Math.min").contains(library.group()), library.group() + " is of the library told");
        }
        methodLengths(code);
    }

    private static String withoutComments(String code) {
        return Pattern.compile("/\\*.*?\\*/|//[^\n]*", Pattern.DOTALL).matcher(code).replaceAll("");
    }

    /** A method is what stands between a line that ends a head with { and its } in the same column. */
    private static void methodLengths(String code) {
        String[] lines = code.split("\n");
        for (int i = 0; i < lines.length; i++) {
            String indent = lines[i].replaceAll("\\S.*", "");
            boolean head = lines[i].matches("\\s+(\\w+\\s+)*\\w+\\(.*\\)\\s*\\{") && indent.length() <= 8;
            if (head) {
                int end = Arrays.asList(lines).subList(i, lines.length).indexOf(indent + "}");
                must(end > 0 && end < 60, "short: " + lines[i].trim());
            }
        }
    }
}
