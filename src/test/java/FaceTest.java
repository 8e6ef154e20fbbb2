import java.io.DataInputStream;
import java.io.IOException;
import java.lang.reflect.Constructor;
import java.lang.reflect.Field;
import java.lang.reflect.Method;
import java.lang.reflect.Modifier;
import java.nio.file.Files;
import java.nio.file.Path;
import java.util.ArrayList;
import java.util.List;
import java.util.Set;
import java.util.TreeSet;
import java.util.regex.Matcher;
import java.util.regex.Pattern;

/** The public face of the document, and such rules of LANGUAGE.md as a reader of the source can check. */
public final class FaceTest {
    private static final String[] FACE = {
        "int stand(int)", "boolean length(int,int,int)", "int next(int,int)", "boolean tear(int,int)",
        "boolean block(int,int,boolean)", "int dock(int,int)", "int tell(int,int)", "int put(int,int,int)",
        "int charge(int,int)", "int wheel(int,int)", "boolean fault(int)", "int test(int)",
        "boolean mend(int)", "int doubt(int,int)", "int hire(int,int,int)", "int end(int,int)", "int hour()",
        "int cart(int,int)", "int drive(int,int)", "int pick(int,int)", "boolean fetch(int,int)",
        "int drop(int)", "int load(int,int)", "boolean demand(int,int,int,int)", "int runs(int,int,int)",
        "int shortage(int)", "boolean want(int,int)", "int plan(int)", "int round(int)", "int carry(int)",
        "boolean image(int)", "boolean again(int)", "int count(int)"};
    private static final String[] BANNED = {
        "\\b(throw|throws|try|catch|finally|synchronized|assert|import|package)\\b", "->", "::",
        "\\b(Object|Float|Double|Boolean|Character|Long|Short|Byte|Number|Class|Thread|Record)\\b",
        "\\b(equals|hashCode|toString|instanceof|volatile|transient|native|strictfp|protected)\\b",
        "\\bMath\\.(?!max\\b|min\\b)", "\\bSystem\\.(?!arraycopy\\b)", "Exact\\b", "[^\\x00-\\x7F]"};

    /** The whole library that the class uses. */
    private static final List<String> LIBRARY = List.of("java/lang/Object", "java/lang/Math", "java/lang/System");

    public static void main(String[] args) throws IOException {
        members();
        library();
        String source = Files.readString(Path.of(args.length > 0 ? args[0] : "src/main/java/WheelStands.java"));
        String code = source.replaceAll("(?s)/\\*.*?\\*/", "").replaceAll("//[^\n]*", "");
        for (String banned : BANNED) {
            Matcher m = Pattern.compile(banned).matcher(code);
            Due.no(banned + " is not found", m.find());
        }
        methods(code);
        Due.close("FaceTest");
    }

    private static void members() {
        Class<?> c = WheelStands.class;
        Due.is("public and final", c.getModifiers(), Modifier.PUBLIC | Modifier.FINAL);
        Set<String> face = new TreeSet<>(List.of(FACE));
        Set<String> names = new TreeSet<>();
        for (String m : FACE) {
            names.add(m.substring(m.indexOf(' ') + 1, m.indexOf('(')));
        }
        for (Method m : c.getDeclaredMethods()) {
            if (Modifier.isPrivate(m.getModifiers()) || m.isSynthetic()) {
                Due.no("private " + m.getName() + " bears a public name", names.contains(m.getName()));
            } else {
                Due.is(m + " is public alone", m.getModifiers(), Modifier.PUBLIC);
                Due.yes(m + " is of the face", face.remove(told(m)));
            }
        }
        Due.is("missing of the face: " + face, face.size(), 0);
        Constructor<?>[] made = c.getDeclaredConstructors();
        Due.is("constructors", made.length, 1);
        Due.is("its arguments", made[0].getParameterCount(), 0);
        Due.yes("public", Modifier.isPublic(made[0].getModifiers()));
        fields(c);
        for (Class<?> inner : c.getDeclaredClasses()) {
            Due.yes(inner + " is static", Modifier.isStatic(inner.getModifiers()));
            Due.no(inner + " is public", Modifier.isPublic(inner.getModifiers()));
        }
        Due.yes("some twelve classes", c.getDeclaredClasses().length < 12);
    }

    private static void fields(Class<?> c) {
        for (Field f : c.getDeclaredFields()) {
            boolean shown = !Modifier.isPrivate(f.getModifiers());
            Due.is(f + " is shown", shown ? 1 : 0, f.getName().equals("NONE") ? 1 : 0);
            if (Modifier.isStatic(f.getModifiers())) {
                Due.yes(f + " is final", Modifier.isFinal(f.getModifiers()));
            }
        }
    }

    private static String told(Method m) {
        List<String> types = new ArrayList<>();
        for (Class<?> type : m.getParameterTypes()) {
            types.add(type.getName());
        }
        return m.getReturnType().getName() + " " + m.getName() + "(" + String.join(",", types) + ")";
    }

    /** No compiled class of the program names another class of the library, nor makes a lambda. */
    private static void library() throws IOException {
        List<Class<?>> all = new ArrayList<>(List.of(WheelStands.class.getDeclaredClasses()));
        all.add(WheelStands.class);
        for (Class<?> c : all) {
            try (DataInputStream in = new DataInputStream(c.getResourceAsStream("/" + c.getName() + ".class"))) {
                for (String name : namedClasses(in)) {
                    boolean own = name.startsWith("WheelStands") || name.startsWith("[");
                    Due.yes(c.getName() + " may name " + name, own || LIBRARY.contains(name));
                }
            }
        }
    }

    /** The classes in the constants of a class file; a lambda's constant is told as wrong. */
    private static Set<String> namedClasses(DataInputStream in) throws IOException {
        in.skipBytes(8);
        int size = in.readUnsignedShort();
        String[] texts = new String[size];
        List<Integer> classes = new ArrayList<>();
        for (int i = 1; i < size; i++) {
            int tag = in.readUnsignedByte();
            switch (tag) {
                case 1: texts[i] = in.readUTF(); break;
                case 7: classes.add(in.readUnsignedShort()); break;
                case 5: case 6: in.skipBytes(8); i++; break;
                case 8: case 16: case 19: case 20: in.skipBytes(2); break;
                case 15: in.skipBytes(3); break;
                case 17: case 18: Due.yes("no lambda and no text joined by +", false); in.skipBytes(4); break;
                default: in.skipBytes(4); break;
            }
        }
        Set<String> names = new TreeSet<>();
        for (int at : classes) {
            names.add(texts[at]);
        }
        return names;
    }

    /** No method of more than some sixty lines or of more than seven parameters. */
    private static void methods(String code) {
        Matcher m = Pattern.compile("(?m)^( {4,8})[\\w\\[\\] ]+\\(([^()]*)\\) \\{\n(?s:.*?)^\\1\\}").matcher(code);
        int seen = 0;
        while (m.find()) {
            seen++;
            String head = m.group().substring(0, m.group().indexOf('\n')).trim();
            Due.yes(head + " is short", m.group().lines().count() <= 60);
            Due.yes(head + " takes seven at most", m.group(2).split(",").length <= 7);
        }
        Due.yes("methods were seen", seen > 60);
    }
}
