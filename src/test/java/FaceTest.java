import java.io.IOException;
import java.lang.reflect.Constructor;
import java.lang.reflect.Field;
import java.lang.reflect.Method;
import java.lang.reflect.Modifier;
import java.nio.file.Files;
import java.nio.file.Path;
import java.util.ArrayList;
import java.util.Arrays;
import java.util.List;
import java.util.Set;
import java.util.TreeSet;

/** The face as the document tells it, and those rules of the language that can be seen from outside. */
public final class FaceTest {
    private static final String[] FACE = {
        "int feed(long,long,long)", "int hills()", "int trip()", "int hut(int,int)", "int price(int,int)",
        "boolean can(int,int)", "int carry(int,int)", "int lay(int)", "int eat(int)", "boolean undo()",
        "int judged(int)", "int most(int)", "int least(int)", "int row(int,int)", "int ways(int)", "int over(int)",
        "int cover()", "int both(int,int)", "int shrink(int)", "boolean stuck()", "int longest()", "int ends()",
        "int alone(int,int)", "int needed(int)", "int brings(int)", "int lack(int,int)", "int guard(int,int)",
        "int before()", "int reach(int)", "int far(int,int)", "int rich()", "int cheap(int,int)", "int layings(int)",
        "int comes(int,int)", "int eden(int)", "int sure(int)", "int always()", "int worst(int,int,int)",
        "int best(int)", "int wins(int)", "int his()", "boolean see(int,int,boolean)", "int fit()", "int look()",
        "int chance(int,int)", "int rests(int,int,int,int) throws java.util.NoSuchElementException",
        "int seasons(int,int,int)", "boolean mark(int,boolean)", "int count(int)"
    };
    private static final String[] NOT_IN_TEXT = {
        "->", "::", " try", "catch", "finally", "synchronized", "assert", "static {", "double", "float", "String",
        "System.", "Object", "instanceof", "hashCode", "equals", "var ", "Exact("
    };

    private static int wrong;
    private static int asked;

    private FaceTest() { }

    private static void due(String what, Object got, Object want) {
        asked++;
        if (!got.equals(want)) {
            wrong++;
            System.out.println("FaceTest: " + what + " is " + got + ", due is " + want);
        }
    }

    public static void main(String[] args) throws IOException {
        checkFace();
        checkClasses();
        if (args.length > 0) {
            checkText(Files.readAllLines(Path.of(args[0], "src/main/java/PassHuts.java")));
        }
        System.out.println("FaceTest: " + asked + " looked at, " + wrong + " not as due");
        if (wrong > 0) {
            System.exit(1);
        }
    }

    private static String told(Method m) {
        List<String> types = new ArrayList<>();
        for (Class<?> type : m.getParameterTypes()) {
            types.add(type.getName());
        }
        StringBuilder thrown = new StringBuilder();
        for (Class<?> type : m.getExceptionTypes()) {
            thrown.append(" throws ").append(type.getName());
        }
        return m.getReturnType().getName() + " " + m.getName() + "(" + String.join(",", types) + ")" + thrown;
    }

    private static void checkFace() {
        Set<String> found = new TreeSet<>();
        for (Method m : PassHuts.class.getDeclaredMethods()) {
            if (Modifier.isPublic(m.getModifiers()) && !Modifier.isStatic(m.getModifiers())) {
                found.add(told(m));
            } else {
                due(m.getName() + " is private", Modifier.isPrivate(m.getModifiers()), true);
            }
        }
        due("the face", found, new TreeSet<>(Arrays.asList(FACE)));
        due("the class is public and final", PassHuts.class.getModifiers(), Modifier.PUBLIC | Modifier.FINAL);
        Constructor<?>[] made = PassHuts.class.getDeclaredConstructors();
        due("constructors", made.length, 1);
        due("the constructor is public", made[0].getModifiers(), Modifier.PUBLIC);
        due("its parameters", made[0].getParameterCount(), 0);
        for (Field f : PassHuts.class.getDeclaredFields()) {
            int not = f.getName().equals("NONE") ? Modifier.PUBLIC : Modifier.PRIVATE;
            due("field " + f.getName(), f.getModifiers() & (Modifier.PUBLIC | Modifier.PRIVATE | Modifier.PROTECTED), not);
        }
        due("NONE", PassHuts.NONE, -1);
    }

    private static void checkClasses() {
        Set<String> face = new TreeSet<>();
        for (String told : FACE) {
            face.add(told.substring(told.indexOf(' ') + 1, told.indexOf('(')));
        }
        List<Class<?>> all = new ArrayList<>(List.of(PassHuts.class.getDeclaredClasses()));
        due("some twelve classes at most", all.size() <= 12, true);
        all.add(PassHuts.class);
        for (Class<?> c : all) {
            due(c.getName() + " is static or the outer one", c == PassHuts.class || Modifier.isStatic(c.getModifiers()), true);
            int fields = 0;
            for (Field f : c.getDeclaredFields()) {
                fields += Modifier.isStatic(f.getModifiers()) ? 0 : 1;
                due(c.getName() + "." + f.getName() + " is final if static",
                    !Modifier.isStatic(f.getModifiers()) || Modifier.isFinal(f.getModifiers()), true);
            }
            due(c.getName() + " has twenty fields at most", fields <= 20, true);
            for (Method m : c.getDeclaredMethods()) {
                boolean own = c == PassHuts.class && Modifier.isPublic(m.getModifiers());
                due(c.getName() + "." + m.getName() + " bears no name of the face", own || !face.contains(m.getName()), true);
                due(m.getName() + " takes seven parameters at most", m.getParameterCount() <= 7, true);
            }
        }
    }

    private static void checkText(List<String> lines) {
        List<String> imports = new ArrayList<>();
        int begun = -1;
        for (int i = 0; i < lines.size(); i++) {
            String line = lines.get(i);
            if (line.startsWith("import")) {
                imports.add(line);
            }
            boolean comment = line.trim().startsWith("//") || line.trim().startsWith("*") || line.trim().startsWith("/*");
            for (String not : comment ? new String[0] : NOT_IN_TEXT) {
                due("line " + (i + 1) + " has " + not, line.contains(not), false);
            }
            due("line " + (i + 1) + " fits", line.length() <= 120, true);
            boolean opens = line.matches("( {4}| {8})[a-zA-Z].*\\) (throws \\w+ )?\\{");
            boolean closes = line.matches("( {4}| {8})}");
            begun = opens ? i : begun;
            if (closes && begun >= 0) {
                due("the method at line " + (begun + 1) + " has sixty lines at most", i - begun + 1 <= 60, true);
                begun = -1;
            }
        }
        due("imports", imports, List.of("import java.util.Arrays;", "import java.util.NoSuchElementException;"));
    }
}
