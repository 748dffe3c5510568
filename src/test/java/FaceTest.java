import java.lang.reflect.Constructor;
import java.lang.reflect.Field;
import java.lang.reflect.Method;
import java.lang.reflect.Modifier;
import java.nio.file.Files;
import java.nio.file.Path;
import java.util.ArrayList;
import java.util.Arrays;
import java.util.List;
import java.util.TreeSet;

/** The public face is the document's, word for word, and nothing else can be seen from outside. */
public final class FaceTest {
    private static final String[] METHODS = {
        "block(int,int)", "collapse(int,int,int)", "count(int)", "cut(int,int)", "exchange(int,int,int,int,int)",
        "failure(int)", "insert(int,int,int)", "many(int)", "mount(boolean)", "ofFile(int,int)",
        "piece(int,int,int)", "punch(int,int,int)", "range(int,int)", "read(int,int)", "seek(int,int,boolean)",
        "share(int,int,int,int,int)", "unshare(int,int,int)", "write(int,int,int,int)",
    };
    private static final String[] CONSTANTS = {
        "FULL=-4", "NONE=-9", "OUTSIDE=-2", "SPENT=-6", "STATE=-3", "UNKNOWN=-1",
    };
    private static int wrong = 0;

    private static void due(String what, Object got, Object want) {
        if (!got.equals(want)) {
            wrong++;
            System.out.println(what + " is " + got + ", due is " + want);
        }
    }

    public static void main(String[] args) throws Exception {
        due("the class's modifiers", CutFiles.class.getModifiers(), Modifier.PUBLIC | Modifier.FINAL);
        due("methods", methods(), new TreeSet<>(Arrays.asList(METHODS)));
        due("constants", constants(), new TreeSet<>(Arrays.asList(CONSTANTS)));
        Constructor<?>[] made = CutFiles.class.getDeclaredConstructors();
        due("constructors", made.length, 1);
        due("the constructor's arguments", made[0].getParameterCount(), 0);
        due("the constructor's modifiers", made[0].getModifiers(), Modifier.PUBLIC);
        due("what the class is made from", CutFiles.class.getSuperclass(), Object.class);
        due("interfaces", CutFiles.class.getInterfaces().length, 0);
        due("the package", CutFiles.class.getPackageName(), "");
        innerClasses();
        due("the face as it is written", written(), inClass(Document.face()));
        System.out.println(wrong == 0 ? "the face is as due" : wrong + " parts of the face are not as due");
        if (wrong != 0) {
            System.exit(1);
        }
    }

    private static void innerClasses() {
        for (Class<?> inner : CutFiles.class.getDeclaredClasses()) {
            int modifiers = inner.getModifiers();
            due(inner.getName() + " is static", Modifier.isStatic(modifiers), true);
            due(inner.getName() + " is seen from outside",
                    Modifier.isPublic(modifiers) || Modifier.isProtected(modifiers), false);
        }
    }

    /** The lines of the source that are public, and those that head a chapter of the interface. */
    private static List<String> written() throws Exception {
        List<String> lines = new ArrayList<>();
        for (String line : Files.readAllLines(Path.of("src", "main", "java", "CutFiles.java"))) {
            String words = line.trim();
            if (words.startsWith("public ") || words.startsWith("// ----")) {
                lines.add(words);
            }
        }
        return lines;
    }

    /** In the class a body begins where the document's line of a call ends. */
    private static List<String> inClass(List<String> face) {
        List<String> lines = new ArrayList<>();
        for (String line : face) {
            lines.add(line.endsWith(");") ? line.substring(0, line.length() - 1) + " {" : line);
        }
        return lines;
    }

    private static TreeSet<String> methods() {
        TreeSet<String> names = new TreeSet<>();
        TreeSet<String> open = new TreeSet<>();
        for (Method m : CutFiles.class.getDeclaredMethods()) {
            if (Modifier.isPrivate(m.getModifiers())) {
                names.add(m.getName());
            } else {
                StringBuilder types = new StringBuilder();
                for (Class<?> type : m.getParameterTypes()) {
                    types.append(types.length() == 0 ? "" : ",").append(type.getName());
                }
                open.add(m.getName() + "(" + types + ")");
                due("what " + m.getName() + " answers", m.getReturnType(), int.class);
                due("modifiers of " + m.getName(), m.getModifiers(), Modifier.PUBLIC);
                due("what " + m.getName() + " throws", m.getExceptionTypes().length, 0);
            }
        }
        for (String m : METHODS) {
            due("a private method bears the name of " + m, names.contains(m.substring(0, m.indexOf('('))), false);
        }
        return open;
    }

    private static TreeSet<String> constants() throws IllegalAccessException {
        TreeSet<String> open = new TreeSet<>();
        for (Field field : CutFiles.class.getDeclaredFields()) {
            if (!Modifier.isPrivate(field.getModifiers())) {
                due("modifiers of " + field.getName(), field.getModifiers(),
                        Modifier.PUBLIC | Modifier.STATIC | Modifier.FINAL);
                open.add(field.getName() + "=" + field.getInt(null));
            }
        }
        return open;
    }
}
