import java.lang.reflect.Constructor;
import java.lang.reflect.Field;
import java.lang.reflect.Method;
import java.lang.reflect.Modifier;
import java.nio.charset.StandardCharsets;
import java.nio.file.Files;
import java.nio.file.Path;
import java.util.List;
import java.util.Set;
import java.util.TreeSet;

/** The public face, the constant NONE, and the rules of LANGUAGE.md that can be seen from outside or by plain search. */
public final class FaceTest {
    private static final String[] FACE = {
        "int sort(int,int,int)", "int feed(int,int,int,int,int)", "boolean end(int)", "int fault(int)", "int figure()",
        "int rule()", "int many(int,int)", "int bubble(int,int,int)", "int ends(int,int)", "int bursts(int,int)",
        "int rest(int,int)", "int hands(int)", "int holds(int,int)", "int plain(int)", "int pop(int,int,int)",
        "int weakest(int)", "int add(int,int,int,int)", "int alike(int,int)", "int match(int,int,int)",
        "int far(int,int,int)", "int span(int)", "int strokes(int)", "int made(int,int)", "int set(int,int,int)",
        "int twice(int)", "boolean stock(int,int)", "boolean pace(int,int)", "int comes(int,int,int)", "int close()",
        "int run(long)", "int guest(int,int)", "int worth(int,int,int,int,int,int)", "int aged(int,int,int,int)",
        "int falls(int,int,int)", "int count(int)"};

    public static void main(String[] args) throws Exception {
        Checks.due("NONE", BalloonStall.NONE, -1);
        face();
        inside();
        source();
        Checks.close("FaceTest");
    }

    private static String told(Method m) {
        StringBuilder s = new StringBuilder(m.getReturnType().getName()).append(' ').append(m.getName()).append('(');
        for (Class<?> c : m.getParameterTypes()) {
            s.append(s.charAt(s.length() - 1) == '(' ? "" : ",").append(c.getName());
        }
        return s.append(')').toString();
    }

    private static void face() {
        Set<String> want = new TreeSet<>(List.of(FACE));
        Set<String> seen = new TreeSet<>();
        for (Method m : BalloonStall.class.getDeclaredMethods()) {
            if (Modifier.isPublic(m.getModifiers())) {
                seen.add(told(m));
            } else {
                Checks.due("private " + m.getName(), Modifier.isPrivate(m.getModifiers()) || m.isSynthetic(), true);
            }
        }
        Checks.due("methods " + seen, seen.equals(want), true);
        Checks.due("how many", want.size(), 35);
        Checks.due("public and final", BalloonStall.class.getModifiers(), Modifier.PUBLIC | Modifier.FINAL);
        for (Field f : BalloonStall.class.getDeclaredFields()) {
            boolean isNone = f.getName().equals("NONE");
            Checks.due("field " + f.getName(), Modifier.isPublic(f.getModifiers()), isNone);
            Checks.due("field " + f.getName(), Modifier.isPrivate(f.getModifiers()), !isNone);
        }
        Constructor<?>[] makers = BalloonStall.class.getDeclaredConstructors();
        Checks.due("constructors", makers.length, 1);
        Checks.due("its parameters", makers[0].getParameterCount(), 0);
    }

    private static void inside() {
        Set<String> names = new TreeSet<>();
        for (String f : FACE) {
            names.add(f.substring(f.indexOf(' ') + 1, f.indexOf('(')));
        }
        Class<?>[] classes = BalloonStall.class.getDeclaredClasses();
        Checks.due("classes inside " + classes.length, classes.length <= 11, true);
        for (Class<?> c : classes) {
            Checks.due(c.getName() + " is not static", Modifier.isStatic(c.getModifiers()), true);
            Checks.due(c.getName() + " is public", Modifier.isPublic(c.getModifiers()), false);
            int fields = 0;
            for (Field f : c.getDeclaredFields()) {
                boolean fixed = Modifier.isStatic(f.getModifiers());
                fields += fixed ? 0 : 1;
                Checks.due("static but not final " + f, fixed && !Modifier.isFinal(f.getModifiers()), false);
            }
            Checks.due(c.getName() + " has fields " + fields, fields <= 20, true);
            for (Method m : c.getDeclaredMethods()) {
                Checks.due("a name of the face inside: " + m, names.contains(m.getName()), false);
                Checks.due("parameters of " + m, m.getParameterCount() <= 7, true);
            }
        }
        for (Method m : BalloonStall.class.getDeclaredMethods()) {
            boolean isPrivate = Modifier.isPrivate(m.getModifiers());
            Checks.due("a name of the face: " + m, isPrivate && names.contains(m.getName()), false);
        }
    }

    private static void source() throws Exception {
        String text = Files.readString(Path.of("src/main/java/BalloonStall.java"), StandardCharsets.ISO_8859_1);
        for (char c : text.toCharArray()) {
            if (c > 126) {
                Checks.due("a sign beyond ASCII", c, 0);
            }
        }
        String[] ruledOut = {"->", "::", " catch ", " finally ", "synchronized", " assert ", "package ", "Exact(",
            "Integer.M", "Long.M", "Math.random", "System.out", "System.nano", "System.current", "\" +", "+ \"",
            "lambda", "Optional", "Stream", "Thread", "instanceof"};
        for (String r : ruledOut) {
            Checks.due("the source holds " + r, text.contains(r), false);
        }
        int open = -1;
        String[] lines = text.split("\n");
        for (int i = 0; i < lines.length; i++) {
            if (lines[i].matches("( {4}| {8})[^ ].*\\) (throws \\w+ )?\\{") ) {
                open = i;
            }
            if (lines[i].matches("( {4}| {8})\\}") && open >= 0) {
                Checks.due("lines of the method at " + (open + 1), i - open <= 60, true);
                open = -1;
            }
            Checks.due("length of line " + (i + 1), lines[i].length() <= 120, true);
        }
    }
}
