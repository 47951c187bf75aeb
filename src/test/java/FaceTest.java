import java.lang.reflect.Constructor;
import java.lang.reflect.Field;
import java.lang.reflect.Method;
import java.lang.reflect.Modifier;
import java.nio.file.Files;
import java.nio.file.Path;
import java.util.ArrayList;
import java.util.HashSet;
import java.util.List;
import java.util.Set;
import java.util.TreeSet;
import java.util.regex.Matcher;
import java.util.regex.Pattern;

/** The public face, and what LANGUAGE.md rules out as far as it can be seen from outside. */
public final class FaceTest {
    private static final Due due = new Due("FaceTest");
    private static final Pattern METHOD = Pattern.compile("public (\\w+) (\\w+)\\((.*)\\);");
    /** The document's methods, each as its answer's type, its name and the types of its parameters. */
    private static final Set<String> FACE = new TreeSet<>();
    private static final Set<String> NAMES = new HashSet<>();

    public static void main(String[] args) throws Exception {
        readFace();
        members();
        for (Class<?> inside : RoomForHelp.class.getDeclaredClasses()) {
            classInside(inside);
        }
        due.yes("twelve classes at most", RoomForHelp.class.getDeclaredClasses().length < 12);
        source(Files.readString(Path.of("src/main/java/RoomForHelp.java")));
        constants();
        due.close();
    }

    private static void constants() throws Exception {
        due.promise(1, "The constants: `NONE = -1`: None.");
        due.is("NONE", RoomForHelp.NONE, -1);
        Field none = RoomForHelp.class.getDeclaredField("NONE");
        due.is("public, static and final", none.getModifiers(), Modifier.PUBLIC | Modifier.STATIC | Modifier.FINAL);
        due.yes("an int", none.getType() == int.class);
    }

    private static void members() {
        due.is("public and final", RoomForHelp.class.getModifiers() & 0xFFFF, Modifier.PUBLIC | Modifier.FINAL);
        Constructor<?>[] made = RoomForHelp.class.getDeclaredConstructors();
        due.is("constructors", made.length, 1);
        due.yes("a public one without arguments", Modifier.isPublic(made[0].getModifiers()) && made[0].getParameterCount() == 0);
        Set<String> open = new TreeSet<>();
        for (Method m : RoomForHelp.class.getDeclaredMethods()) {
            if (!Modifier.isPrivate(m.getModifiers())) {
                List<String> types = new ArrayList<>();
                for (Class<?> type : m.getParameterTypes()) {
                    types.add(type.getName());
                }
                open.add(m.getReturnType().getName() + " " + m.getName() + "(" + String.join(",", types) + ")");
            } else {
                due.no("a private method named as a public one: " + m.getName(), NAMES.contains(m.getName()));
            }
            due.yes("seven parameters at most: " + m.getName(), m.getParameterCount() <= 7);
        }
        due.yes("the methods " + open + ", due are " + FACE, open.equals(FACE));
        for (Field f : RoomForHelp.class.getDeclaredFields()) {
            due.yes("private: " + f.getName(), f.getName().equals("NONE") || Modifier.isPrivate(f.getModifiers()));
            staticIsFinal(f);
        }
        twentyFieldsAtMost(RoomForHelp.class);
    }

    private static void readFace() {
        for (String row : Document.face()) {
            Matcher m = METHOD.matcher(row);
            if (m.matches()) {
                FACE.add(m.group(1) + " " + m.group(2) + "(" + m.group(3).replaceAll("(\\w+) \\w+", "$1").replace(" ", "") + ")");
                NAMES.add(m.group(2));
            }
        }
        due.is("rows of the face: a constant, a constructor, the methods", Document.face().length, 2 + FACE.size());
        due.is("methods of the face", FACE.size(), 23);
    }

    private static void classInside(Class<?> c) {
        int flags = c.getModifiers();
        due.yes("static: " + c, Modifier.isStatic(flags));
        due.no("public or protected: " + c, Modifier.isPublic(flags) || Modifier.isProtected(flags));
        due.is("classes inside " + c, c.getDeclaredClasses().length, 0);
        for (Field f : c.getDeclaredFields()) {
            staticIsFinal(f);
        }
        twentyFieldsAtMost(c);
        for (Method m : c.getDeclaredMethods()) {
            due.no("a method inside named as a public one: " + m.getName(), NAMES.contains(m.getName()));
            due.yes("seven parameters at most: " + m.getName(), m.getParameterCount() <= 7);
        }
    }

    private static void twentyFieldsAtMost(Class<?> c) {
        int fields = 0;
        for (Field f : c.getDeclaredFields()) {
            fields += Modifier.isStatic(f.getModifiers()) ? 0 : 1;
        }
        due.yes("twenty fields at most: " + c, fields <= 20);
    }

    private static void staticIsFinal(Field f) {
        due.yes("final if static: " + f, !Modifier.isStatic(f.getModifiers()) || Modifier.isFinal(f.getModifiers()));
    }

    private static void source(String text) {
        String code = text.replaceAll("(?s)/\\*.*?\\*/", "").replaceAll("//[^\n]*", "").replaceAll("\"[^\"]*\"", "\"\"");
        for (String word : new String[] {"throw", "throws", "try", "catch", "synchronized", "assert", "package", "Object",
            "Exception", "Random", "System\\.(?!arraycopy)", "\\w+Exact", "->", "::", "double", "float", "hashCode", "toString"}) {
            Matcher m = Pattern.compile("(?<!\\w)" + word + "(?!\\w)").matcher(code);
            due.no("ruled out: " + word, m.find());
        }
        Matcher imports = Pattern.compile("import ([\\w.]+);").matcher(code);
        while (imports.find()) {
            due.yes("import of " + imports.group(1), imports.group(1).equals("java.util.Arrays"));
        }
        due.yes("characters", text.chars().allMatch(c -> c < 128));
        methodsAreShort(text.split("\n"));
    }

    /** A method ends where a brace closes at the depth at which it was opened. */
    private static void methodsAreShort(String[] lines) {
        Pattern head = Pattern.compile("^( {4}| {8})(?! |(?:private |static |final )*class )[\\w\\[\\]<> ]+\\(.*");
        for (int i = 0; i < lines.length; i++) {
            Matcher m = head.matcher(lines[i]);
            if (m.matches() && !lines[i].trim().matches("(if|for|while|switch|return|else).*") && !lines[i].endsWith(";")) {
                int end = i;
                while (end < lines.length && !lines[end].equals(m.group(1) + "}")) {
                    end++;
                }
                due.yes("sixty lines at most: " + lines[i].trim(), end - i < 60);
            }
        }
    }
}
