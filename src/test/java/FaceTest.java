import java.io.IOException;
import java.lang.reflect.Field;
import java.lang.reflect.Method;
import java.lang.reflect.Modifier;
import java.nio.charset.StandardCharsets;
import java.nio.file.Files;
import java.nio.file.Path;
import java.util.Arrays;
import java.util.HashMap;
import java.util.Map;
import java.util.TreeSet;

/** The face of the class as the document has it, and what can be seen of LANGUAGE.md's rules. */
public final class FaceTest {
    private static final String FACE = "int feed 5 S|void end 1 A|int net 0|int rules 0|int order 0|int find 0|int count 1 A|"
            + "int name 3|int get 3 I A|int set 4 I A|void keep 1 A|void back 1 A S|int bar 2 I A|int angle 1 I|"
            + "int carries 1 I|int gives 1 I|int figures 1 A|int figure 2 A|int screen 0|int trouble 2 I A|"
            + "int meter 4 A I S|boolean strike 2 I|int seen 1 I|int estimate 1 I S|int rest 2 I A S|int worst 0|"
            + "void shortAt 3 I A|void shortOn 4 I A|boolean clearShort 0|int into 1 A|int voltage 2 I A|"
            + "int current 3 I A|int relay 4 I A S|int row 3 I A S|boolean fails 2 I|int backup 1 A|boolean met 2 I|"
            + "int begin 0 S|int run 1 S A|int opened 2|boolean ordered 1|int dispatch 0|int cost 0 S|int sets 1 I S|"
            + "int price 1 I S|int barred 1 A|int carry 0|int restore 1 A|int step 1";
    private static final String[] FORBIDDEN = {"package ", "::", "synchronized", "assert ", "finally", "Exact(", "native ",
        "strictfp", "volatile ", "transient ", "System.out", "System.in", "System.err", "currentTime", "nanoTime", "Random",
        "Thread", "getMessage", "hashCode", "static {", "Objects.", "java.io", "java.nio", "java.net"};
    private static final String[] MACHINE = {"ArrayIndexOutOfBoundsException", "NullPointerException", "ClassCastException",
        "NegativeArraySizeException", "ArrayStoreException", "Exception", "Throwable", "Error"};
    private static final String[] SHUNNED = {"import ", "->", "catch", "try ", "instanceof", "java.", "Object ", "double",
        "float", "toString", "Integer.numberOf", "\"\" +", "+ \"\"", "RuntimeException", "ArithmeticException"};
    private static int wrong;

    private FaceTest() {
    }

    public static void main(String[] args) throws IOException {
        face();
        source();
        System.out.println(wrong == 0 ? "the face is as the document has it" : "the face is not as the document has it");
        if (wrong != 0) {
            System.exit(1);
        }
    }

    private static void say(boolean good, String what) {
        if (!good) {
            wrong++;
            System.out.println(what);
        }
    }

    private static void face() {
        Map<String, String> due = new HashMap<>();
        for (String line : FACE.split("\\|")) {
            due.put(line.split(" ")[1], line);
        }
        for (Method m : GridHouse.class.getDeclaredMethods()) {
            if (m.isSynthetic()) {
                continue;
            }
            if (Modifier.isPrivate(m.getModifiers())) {
                say(!due.containsKey(m.getName()), "a private method bears a public name: " + m.getName());
                continue;
            }
            StringBuilder t = new StringBuilder(m.getReturnType() + " " + m.getName() + " " + m.getParameterCount());
            for (Class<?> e : m.getExceptionTypes()) {
                t.append(e == IllegalStateException.class ? " S" : e == IllegalArgumentException.class ? " A" : " I");
            }
            say(t.toString().equals(due.remove(m.getName())), "not of the face: " + t);
            say(Modifier.isPublic(m.getModifiers()), "not public: " + m.getName());
        }
        say(due.isEmpty(), "missing: " + due.keySet());
        for (Field f : GridHouse.class.getDeclaredFields()) {
            say(f.isSynthetic() || Modifier.isPrivate(f.getModifiers()) || f.getName().equals("NONE"), "a field of the face: " + f.getName());
        }
        say(GridHouse.NONE == -1, "NONE");
        say(Modifier.isFinal(GridHouse.class.getModifiers()), "the class is not final");
        say(GridHouse.class.getConstructors().length == 1, "constructors");
        for (Class<?> c : GridHouse.class.getDeclaredClasses()) {
            say(!Modifier.isPublic(c.getModifiers()) && !Modifier.isProtected(c.getModifiers()), "of the face: " + c);
        }
        if (Check.isBuiltWith("Solver")) {
            inside();
        }
    }

    /** What this program keeps to within. */
    private static void inside() {
        say(GridHouse.class.getDeclaredClasses().length <= 12, "more than twelve classes");
        for (Class<?> c : GridHouse.class.getDeclaredClasses()) {
            say(Modifier.isPrivate(c.getModifiers()) && Modifier.isStatic(c.getModifiers()), "not private: " + c);
            int fields = 0;
            for (Field f : c.getDeclaredFields()) {
                boolean isStatic = Modifier.isStatic(f.getModifiers());
                fields += isStatic ? 0 : 1;
                say(!isStatic || Modifier.isFinal(f.getModifiers()), "static and not final: " + c + f);
            }
            say(fields <= 20, "more than twenty fields: " + c + " has " + fields);
        }
    }

    private static void source() throws IOException {
        String s = Files.readString(Path.of("src/main/java/GridHouse.java"), StandardCharsets.ISO_8859_1);
        String code = s.replaceAll("(?s)/\\*.*?\\*/", " ").replaceAll("//[^\n]*", " ").replaceAll("\"[^\"\n]*\"", "\"\"");
        for (String no : FORBIDDEN) {
            say(!code.contains(no), "not of the language: " + no);
        }
        TreeSet<String> named = new TreeSet<>();
        for (String part : code.split("throw new ")) {
            named.add(part.replaceAll("(?s)\\W.*", ""));
        }
        for (String part : code.split("catch \\(")) {
            named.add(part.replaceAll("(?s)\\W.*", ""));
        }
        named.retainAll(Arrays.asList(MACHINE));
        say(named.isEmpty(), "thrown or caught: " + named);
        if (Check.isBuiltWith("Solver")) {
            ownSource(s, code);
        }
    }

    /** What this program does without, though the language has it, and how it is written. */
    private static void ownSource(String s, String code) {
        for (int i = 0; i < s.length(); i++) {
            say(s.charAt(i) == '\n' || s.charAt(i) >= 32 && s.charAt(i) < 127, "a sign beyond 127 at " + i);
        }
        for (String no : SHUNNED) {
            say(!code.contains(no), "not needed by the program: " + no);
        }
        int line = 0;
        for (String l : s.split("\n")) {
            line++;
            say(l.length() <= 120, "a long line: " + line);
        }
    }
}
