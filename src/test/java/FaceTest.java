import java.lang.reflect.Constructor;
import java.lang.reflect.Field;
import java.lang.reflect.Member;
import java.lang.reflect.Method;
import java.lang.reflect.Modifier;
import java.nio.file.Files;
import java.nio.file.Path;
import java.util.ArrayList;
import java.util.Arrays;
import java.util.List;
import java.util.TreeSet;
import java.util.regex.Pattern;

/** The public face, and those rules of LANGUAGE.md that a small test can see. */
public final class FaceTest {
    private static final String FACE = "int feed(int,int,int,int,int);int cloth(int);int fault();int where();"
        + "int row(int,int);int next(int,int);int instead(int,int);int spare(int);int rows(int);int at(int,int);"
        + "int colour(int,int,int);int units();int may(int);boolean weave(int,int);boolean rip(int);int weeks(int);"
        + "boolean undo();int meets();int meeting(int);int woven(int);int takes(int,int);int far(int);long ways();"
        + "int sure(int,int);int sureRows(int);int third();int answered(int);int wrongs();int mend();int mendBy();"
        + "int seen(int,int);int seenAt(int,int);long orders();long ahead(int,int);int mark();boolean back(int);"
        + "int led(int);int size(int);int trouble()";

    public static void main(String[] args) throws Exception {
        face();
        nested();
        source();
        Check.end();
    }

    private static void face() {
        TreeSet<String> open = new TreeSet<>();
        for (Method m : TwoWeavers.class.getDeclaredMethods()) {
            if (Modifier.isPublic(m.getModifiers())) {
                StringBuilder types = new StringBuilder();
                for (Class<?> c : m.getParameterTypes()) {
                    types.append(types.length() == 0 ? "" : ",").append(c.getName());
                }
                open.add(m.getReturnType().getName() + " " + m.getName() + "(" + types + ")");
                Check.due("throws clause of " + m.getName(), Arrays.toString(m.getExceptionTypes())
                    .equals(m.getName().equals("led") ? "[class java.util.NoSuchElementException]" : "[]"), true);
            } else {
                hidden(m);
            }
        }
        TreeSet<String> due = new TreeSet<>(Arrays.asList(FACE.split(";")));
        Check.due("the face has " + open, open.equals(due), true);
        for (Field f : TwoWeavers.class.getDeclaredFields()) {
            if (!f.getName().equals("NONE")) {
                hidden(f);
            }
        }
        Constructor<?>[] made = TwoWeavers.class.getDeclaredConstructors();
        Check.due("constructors", made.length, 1);
        Check.due("is public and final", Modifier.isPublic(TwoWeavers.class.getModifiers())
            && Modifier.isFinal(TwoWeavers.class.getModifiers()), true);
    }

    private static void hidden(Member m) {
        Check.due("private is " + m.getName(), Modifier.isPrivate(m.getModifiers()), true);
    }

    private static void nested() {
        Class<?>[] inside = TwoWeavers.class.getDeclaredClasses();
        Check.due("at most twelve classes", inside.length < 12, true);
        List<Class<?>> all = new ArrayList<>(Arrays.asList(inside));
        all.add(TwoWeavers.class);
        for (Class<?> c : all) {
            int fields = 0;
            for (Field f : c.getDeclaredFields()) {
                boolean constant = Modifier.isStatic(f.getModifiers());
                Check.due("static is final: " + f, constant && !Modifier.isFinal(f.getModifiers()), false);
                fields += constant ? 0 : 1;
            }
            Check.due("some twenty fields in " + c.getName(), fields <= 20, true);
            for (Method m : c.getDeclaredMethods()) {
                Check.due("parameters of " + m.getName(), m.getParameterCount() <= 7, true);
                boolean borrowed = !Modifier.isPublic(m.getModifiers()) && FACE.contains(" " + m.getName() + "(");
                Check.due("a name of the face in " + m, borrowed, false);
            }
            if (c != TwoWeavers.class) {
                Check.due("static is " + c.getName(), Modifier.isStatic(c.getModifiers()), true);
            }
        }
    }

    private static void source() throws Exception {
        String text = Files.readString(Path.of("src/main/java/TwoWeavers.java"));
        String[] never = {"->", "::", "\\bfinally\\b", "\\bassert\\b", "\\bsynchronized\\b", "\\bcatch\\b", "\\btry\\b",
            "Exact\\b", "\\bpackage\\b", "System\\.", "\\bdouble\\b", "\\bfloat\\b", "\\bprotected\\b", "\\bnull\\b"};
        for (String word : never) {
            Check.due("never " + word, Pattern.compile(word).matcher(text).find(), false);
        }
        int start = 0;
        String[] lines = text.split("\n");
        for (int i = 0; i < lines.length; i++) {
            if (lines[i].matches("\\s+(public|private|static|final|boolean|int|long|void).*\\) (throws \\w+ )?\\{")) {
                start = i;
            }
            boolean ends = lines[i].equals("    }") || lines[i].equals("        }");
            if (ends && start > 0) {
                Check.due("some sixty lines behind line " + (start + 1), i - start <= 60, true);
                start = 0;
            }
            if (lines[i].startsWith("import ")) {
                Check.due(lines[i], lines[i].matches("import java\\.util\\.(Arrays|NoSuchElementException);"), true);
            }
            for (char sign : lines[i].toCharArray()) {
                Check.due("sign at line " + (i + 1), sign < 128, true);
            }
        }
    }
}
