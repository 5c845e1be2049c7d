import java.io.IOException;
import java.lang.reflect.Constructor;
import java.lang.reflect.Field;
import java.lang.reflect.Method;
import java.lang.reflect.Modifier;
import java.nio.file.Files;
import java.nio.file.Path;
import java.util.ArrayList;
import java.util.Arrays;
import java.util.Collections;
import java.util.List;
import java.util.Set;
import java.util.TreeSet;
import java.util.regex.Matcher;
import java.util.regex.Pattern;

/** The public face of the document, and those rules of LANGUAGE.md that can be looked up; args: the source file. */
public final class FormTest {
    private static final String[] FACE = {"int feed(int,int,int,int,int)", "boolean end(int)", "int fault(int)",
        "int text(int)", "int body(int,int)", "boolean light(int)", "int move(int,int,int)", "int glass(int)",
        "int steps(int,long)", "int undo()", "int image(int,int,int,int)", "int far(int,int,int,int)",
        "int lightOf(int,int,int,int)", "int near(int,int,int,int)", "int within(int,int,int)", "int brighter(int,int)",
        "int seen(int,int,int,int)", "int view(int,int,int)", "int walls(int,int)", "int hits(int,int,int,int,int)",
        "int round(int,int)", "int ways(int,int,int)", "int hang(int,int,int,int)", "int pane(int,int,int)",
        "int hinge(int,int,int)", "int angles(int,int)", "int beads(int,int)", "int photo(int,int)", "int fits(int)",
        "int keep()", "int back()", "int count(int)"};
    private static final String[] NOT_IN_IT = {"->", "::", "\\bfinally\\b", "\\bsynchronized\\b", "\\bassert\\b",
        "\\bcatch\\b", "\\btry\\b", "Exact\\(", "\\bSystem\\.(?!arraycopy)", "\\bvar\\b", "\\bdouble\\b", "\\bfloat\\b",
        "\\bprotected\\b", "\\bpackage\\b", "\" *\\+", "\\+ *\"", "[^\\x00-\\x7f]", "\\t", "while \\(true\\)", "for \\(;;\\)",
        "\\bstatic \\{"};

    private FormTest() {
    }

    public static void main(String[] args) throws IOException {
        Class<?> room = GlassRoom.class;
        Check.due("public and final", Modifier.isPublic(room.getModifiers()) && Modifier.isFinal(room.getModifiers()), true);
        face(room);
        constants(room);
        List<Class<?>> all = new ArrayList<>(List.of(room));
        Collections.addAll(all, room.getDeclaredClasses());
        Check.due("classes: twelve at most", all.size() <= 12, true);
        for (Class<?> one : all) {
            members(one, one == room);
        }
        source(Files.readString(Path.of(args.length > 0 ? args[0] : "src/main/java/GlassRoom.java")));
        Check.finish("FormTest");
    }

    private static void face(Class<?> room) {
        Set<String> found = new TreeSet<>();
        for (Method method : room.getDeclaredMethods()) {
            if (Modifier.isPublic(method.getModifiers())) {
                found.add(told(method));
                Check.due(method.getName() + " is of the object", Modifier.isStatic(method.getModifiers()), false);
                Check.due(method.getName() + " throws", method.getExceptionTypes().length, method.getName().equals("body") ? 1 : 0);
            }
        }
        Set<String> wanted = new TreeSet<>(Arrays.asList(FACE));
        if (!found.equals(wanted)) {
            System.out.println("found " + found);
        }
        Check.due("the face", found.equals(wanted), true);
        Constructor<?>[] constructors = room.getDeclaredConstructors();
        Check.due("one constructor", constructors.length, 1);
        Check.due("public", Modifier.isPublic(constructors[0].getModifiers()), true);
        Check.due("without parameters", constructors[0].getParameterCount(), 0);
    }

    private static String told(Method method) {
        StringBuilder text = new StringBuilder(method.getReturnType() + " " + method.getName() + "(");
        Class<?>[] types = method.getParameterTypes();
        for (int k = 0; k < types.length; k++) {
            text.append(k > 0 ? "," : "").append(types[k]);
        }
        return text.append(")").toString();
    }

    private static void constants(Class<?> room) {
        Set<String> found = new TreeSet<>();
        for (Field field : room.getDeclaredFields()) {
            if (Modifier.isPublic(field.getModifiers())) {
                found.add(field.getType() + " " + field.getName());
                Check.due(field.getName() + " static final", Modifier.isStatic(field.getModifiers())
                        && Modifier.isFinal(field.getModifiers()), true);
            }
        }
        Check.due("the constants", found.equals(Set.of("int NONE", "int HIDDEN")), true);
    }

    private static void members(Class<?> one, boolean outer) {
        Set<String> faceNames = new TreeSet<>();
        for (String told : FACE) {
            faceNames.add(told.substring(told.indexOf(' ') + 1, told.indexOf('(')));
        }
        for (Method method : one.getDeclaredMethods()) {
            int modifiers = method.getModifiers();
            boolean ofFace = outer && Modifier.isPublic(modifiers);
            Check.due(one + " " + method.getName() + " bears a name of the face", !ofFace && faceNames.contains(method.getName()), false);
            Check.due(one + " " + method.getName() + " is seen from outside", outer && !ofFace && !Modifier.isPrivate(modifiers), false);
            Check.due(one + " " + method.getName() + " parameters", method.getParameterCount() <= 7, true);
        }
        int fields = 0;
        for (Field field : one.getDeclaredFields()) {
            int modifiers = field.getModifiers();
            boolean isStatic = Modifier.isStatic(modifiers);
            fields += isStatic ? 0 : 1;
            Check.due(field + " is static and changes", isStatic && !Modifier.isFinal(modifiers), false);
            boolean hidden = Modifier.isPrivate(modifiers) || Modifier.isPublic(modifiers) && isStatic;
            Check.due(field + " is seen from outside", outer && !hidden, false);
        }
        Check.due(one + " fields", fields <= 20, true);
        Check.due(one + " static", outer || Modifier.isStatic(one.getModifiers()), true);
    }

    private static void source(String text) {
        for (String sign : NOT_IN_IT) {
            Matcher matcher = Pattern.compile(sign).matcher(withoutComments(text));
            Check.due("'" + sign + "' stands in it", matcher.find(), false);
        }
        Matcher imports = Pattern.compile("import ([\\w.]+);").matcher(text);
        while (imports.find()) {
            Check.due("import " + imports.group(1), imports.group(1).equals("java.util.NoSuchElementException"), true);
        }
        String[] lines = text.split("\n");
        int start = -1;
        for (int k = 0; k < lines.length; k++) {
            if (lines[k].matches("( {4}| {8})(public |private |static |[A-Za-z]).*\\) ?(throws \\w+ )?\\{")) {
                start = k;
            }
            if (start >= 0 && lines[k].matches("( {4}| {8})\\}")) {
                Check.due("lines from " + (start + 1), k - start + 1 <= 60, true);
                start = -1;
            }
            Check.due("line " + (k + 1) + " width", lines[k].length() <= 125, true);
        }
    }

    private static String withoutComments(String text) {
        return text.replaceAll("(?s)/\\*.*?\\*/", "").replaceAll("//[^\n]*", "");
    }
}
