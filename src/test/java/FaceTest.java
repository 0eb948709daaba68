import java.io.IOException;
import java.lang.reflect.Constructor;
import java.lang.reflect.Field;
import java.lang.reflect.Member;
import java.lang.reflect.Method;
import java.lang.reflect.Modifier;
import java.nio.file.Files;
import java.nio.file.Path;
import java.util.List;
import java.util.TreeSet;

/** The public face is the document's to the letter. LanguageTest looks at what is behind it. */
public final class FaceTest {
    private static final String[] CONSTANTS = {
        "NONE=-1", "RING=-2", "FULL=-3", "UNABLE=-4", "SPARE=-5", "SAME=1000",
        "NOTHING=-11", "CAST=-12", "PLACE=-13", "SIZE=-14", "THROWN=-15",
    };

    private static final String[] METHODS = {
        "int begin(int,int,int)", "int gate(int,int,int,int,int)", "int rewire(int,int,int,int)", "int out(int,int,int)",
        "int next(int,int,int)", "int free(int)", "int value(int,int,int)",
        "long row(int,int,int) IllegalArgumentException", "int hangs(int,int,int)", "int differ()",
        "int enough(int,int,int)", "int points(int)", "int point(int)", "int mend(int,int,int,int)",
        "int witness(int,int,int,int)", "int judge(int,int,int,int)", "int patch(int,int,int,int,int)", "int clash(int)",
        "int mark(int,int)", "int best(int)", "int patched(int)", "int function(int)", "int told(int)",
        "int node(int,int)", "int cost(int,int)", "int site(int,int,int)", "int spare(int,int,int)", "int place()",
        "int used(int)", "int delay(int,int)", "int arrive(int,int)", "int late(int)", "int apply()", "int undo()",
        "int change(int,int)", "int test(int)", "int idle(int)", "int tape(int,int,int)", "int image(int)",
        "int back(int)", "int toss(int)", "int clear(int)", "int put(int,int,long)",
        "long at(int,int) IllegalArgumentException IllegalStateException", "int copy(int,int,int,int,int)",
        "int count(int)",
    };

    private static int wrong;

    public static void main(String[] args) throws IOException {
        face();
        signs();
        System.out.println(wrong == 0 ? "the face and the file are as due" : wrong + " faults");
        if (wrong != 0) System.exit(1);
    }

    private static void fault(String text) {
        wrong++;
        System.out.println(text);
    }

    private static void face() {
        if (GatePatch.class.getModifiers() != (Modifier.PUBLIC | Modifier.FINAL)) fault("the class is not public final");
        TreeSet<String> found = new TreeSet<>();
        for (Field f : GatePatch.class.getDeclaredFields()) if (open(f)) found.add(constant(f));
        same("constants", found, CONSTANTS);
        found.clear();
        TreeSet<String> names = new TreeSet<>();
        for (Method m : GatePatch.class.getDeclaredMethods()) {
            if (open(m)) {
                found.add(method(m));
                names.add(m.getName());
            }
        }
        same("methods", found, METHODS);
        for (Method m : GatePatch.class.getDeclaredMethods()) {
            if (!open(m) && names.contains(m.getName())) fault("a private method is named " + m.getName());
        }
        for (Constructor<?> c : GatePatch.class.getDeclaredConstructors()) {
            if (!Modifier.isPublic(c.getModifiers()) || c.getParameterCount() != 0) fault("a constructor too many: " + c);
        }
    }

    private static void same(String what, TreeSet<String> found, String[] due) {
        TreeSet<String> wanted = new TreeSet<>(List.of(due));
        for (String w : wanted) if (!found.contains(w)) fault(what + ": " + w + " is missing");
        for (String f : found) if (!wanted.contains(f)) fault(what + ": " + f + " is not of the face");
    }

    private static boolean open(Member m) { return !Modifier.isPrivate(m.getModifiers()) && !m.isSynthetic(); }

    private static String constant(Field f) {
        int modifiers = Modifier.PUBLIC | Modifier.STATIC | Modifier.FINAL;
        try {
            return f.getModifiers() == modifiers && f.getType() == int.class ? f.getName() + "=" + f.getInt(null) : f.toString();
        } catch (IllegalAccessException e) {
            return f.toString();
        }
    }

    private static String method(Method m) {
        if (m.getModifiers() != Modifier.PUBLIC) return m.toString();
        StringBuilder text = new StringBuilder(m.getReturnType().getName()).append(' ').append(m.getName()).append('(');
        String comma = "";
        for (Class<?> p : m.getParameterTypes()) {
            text.append(comma).append(p.getName());
            comma = ",";
        }
        text.append(')');
        for (Class<?> e : m.getExceptionTypes()) text.append(' ').append(e.getSimpleName());
        return text.toString();
    }

    private static void signs() throws IOException {
        List<String> lines = Files.readAllLines(Path.of("src/main/java/GatePatch.java"));
        for (int i = 0; i < lines.size(); i++) {
            for (int k = 0; k < lines.get(i).length(); k++) {
                if (lines.get(i).charAt(k) > 126) fault("line " + (i + 1) + " has a sign beyond 126");
            }
        }
    }
}
