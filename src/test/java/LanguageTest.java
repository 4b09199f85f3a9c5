import java.io.IOException;
import java.lang.management.ManagementFactory;
import java.lang.reflect.Constructor;
import java.lang.reflect.Field;
import java.lang.reflect.Method;
import java.lang.reflect.Modifier;
import java.nio.file.Files;
import java.nio.file.Path;
import java.util.ArrayList;
import java.util.Arrays;
import java.util.List;
import java.util.Set;
import java.util.TreeSet;
import java.util.regex.Matcher;
import java.util.regex.Pattern;

/** The public face, and those rules of LANGUAGE.md that can be seen in the source or in a run. */
public final class LanguageTest {
    private static final Path SOURCE = Path.of("src/main/java/TinDucks.java");
    private static final String[] FACE = {
        "int type(int,int)", "int wipe(int)", "int undo(int)", "int fault(int)", "int chain(int)", "int duck(int,int)",
        "int shot(int,int)", "int rifle(int,int)", "int event(int,int,int)", "int back()", "int read(int)",
        "int at(int,int,int)", "int sees(int,int,int)", "int down(int)", "int hits(int,int)", "int sum(int)", "int run(int)",
        "int easy()", "int safe()", "int aim(int,int)", "int fire(int,int)", "int mend(int)", "int spare(int)",
        "int seen(int,int,int)", "int forget()", "int might(int)", "int kind(int)", "int ask()", "long chance(int,int,int)",
        "int fairs(int,int,int)", "int sheet(int,int,int)", "int lose(int)", "int lay(int,int,int,int)",
        "int get(int,int,int)", "int copy(int,int,int,int,int)", "int write(int,int)", "int count(int)", "long digest()",
    };
    private static final Due due = new Due();

    public static void main(String[] args) throws IOException {
        face();
        nested();
        String code = withoutCommentsAndTexts(Files.readString(SOURCE));
        words(code);
        methods(code);
        room();
        due.end();
    }

    private static void face() {
        Set<String> found = new TreeSet<>();
        Set<String> publicNames = new TreeSet<>();
        List<String> privateNames = new ArrayList<>();
        for (Method m : TinDucks.class.getDeclaredMethods()) {
            if (Modifier.isPublic(m.getModifiers())) {
                due.holds(m + " is no static one", !Modifier.isStatic(m.getModifiers()));
                found.add(m.toString().replace("public ", "").replace("TinDucks.", ""));
                publicNames.add(m.getName());
            } else {
                due.holds(m + " is private", Modifier.isPrivate(m.getModifiers()));
                privateNames.add(m.getName());
            }
        }
        due.holds("the methods of the document: " + found, found.equals(new TreeSet<>(Arrays.asList(FACE))));
        for (String name : privateNames) {
            due.holds(name + " is no public name", !publicNames.contains(name));
        }
        for (Field f : TinDucks.class.getDeclaredFields()) {
            boolean constant = Set.of("NONE", "BAD", "NOT", "FULL").contains(f.getName());
            due.holds(f + " is public or private as told", constant == Modifier.isPublic(f.getModifiers())
                && constant != Modifier.isPrivate(f.getModifiers()));
            due.holds(f + " is final if static", !Modifier.isStatic(f.getModifiers()) || Modifier.isFinal(f.getModifiers()));
        }
        due.is("NONE", TinDucks.NONE, -1);
        due.is("BAD", TinDucks.BAD, -2);
        due.is("NOT", TinDucks.NOT, -3);
        due.is("FULL", TinDucks.FULL, -4);
        Constructor<?>[] constructors = TinDucks.class.getDeclaredConstructors();
        due.is("constructors", constructors.length, 1);
        due.holds("a public one", Modifier.isPublic(constructors[0].getModifiers()));
        due.holds("the class is final", Modifier.isFinal(TinDucks.class.getModifiers()));
    }

    private static void nested() {
        Class<?>[] inside = TinDucks.class.getDeclaredClasses();
        due.holds("some twelve classes at most", inside.length + 1 <= 12);
        for (Class<?> c : inside) {
            due.holds(c + " is static", Modifier.isStatic(c.getModifiers()));
            due.holds(c + " is not public", !Modifier.isPublic(c.getModifiers()) && !Modifier.isProtected(c.getModifiers()));
            long fields = Arrays.stream(c.getDeclaredFields()).filter(f -> !Modifier.isStatic(f.getModifiers())).count();
            due.holds(c + " has some twenty fields at most: " + fields, fields <= 20);
        }
    }

    private static String withoutCommentsAndTexts(String source) {
        return source.replaceAll("(?s)/\\*.*?\\*/", "").replaceAll("//[^\n]*", "").replaceAll("\"[^\"]*\"", "\"\"");
    }

    private static void words(String code) {
        String[] never = {"throw", "throws", "try", "catch", "finally", "synchronized", "assert", "volatile", "transient",
            "protected", "native", "strictfp", "package", "Object", "System\\.(?!arraycopy)", "->", "::", "@",
            "\\w*Exact", "hashCode", "MIN_VALUE", "MAX_VALUE", "java\\.(?!util\\.Arrays)", "double", "float"};
        for (String word : never) {
            String bounded = Character.isLetter(word.charAt(0)) ? "\\b" + word + "(?!\\w)" : word;
            Matcher m = Pattern.compile(word.endsWith(")") ? "\\b" + word : bounded).matcher(code);
            due.holds("no " + word, !m.find());
        }
        due.holds("signs 1 to 127 alone", code.chars().allMatch(c -> c >= 1 && c <= 127));
    }

    private static void methods(String code) {
        Matcher m = Pattern.compile("\\n( {4}| {8})(?:[a-z]+ )*[\\w\\[\\]]+ ?\\w*\\(([^)]*)\\) \\{\\n(.*?)\\n\\1\\}", Pattern.DOTALL)
            .matcher(code);
        int many = 0;
        while (m.find()) {
            many++;
            String head = m.group().trim().split("\n")[0];
            due.holds("at most seven parameters: " + head, m.group(2).split(",").length <= 7);
            due.holds("at most some sixty lines: " + head, m.group(3).split("\n").length <= 60);
        }
        due.holds("methods are found: " + many, many >= FACE.length);
    }

    /** All calls of a run live in one room, so calls must not make objects. */
    private static void room() {
        TinDucks x = Told.of("r1;l2;r3", "0at1;0bh2;0cg3;1ct4;2ct5", "a01;b02;c03;a12");
        x.sheet(0, 0, 60);
        x.read(0);
        x.digest();
        com.sun.management.ThreadMXBean threads = (com.sun.management.ThreadMXBean) ManagementFactory.getThreadMXBean();
        long id = Thread.currentThread().getId();
        threads.getThreadAllocatedBytes(id);
        long before = threads.getThreadAllocatedBytes(id);
        for (int i = 0; i < 80; i++) {
            x.rifle(0, i % 5);
            x.type(2, 59);
            x.undo(2);
            x.digest();
            x.sheet(i % 4, 2, 60);
        }
        long made = threads.getThreadAllocatedBytes(id) - before;
        due.holds("calls make no objects: " + made + " bytes", made < 10_000);
    }
}
