import java.io.IOException;
import java.lang.reflect.InvocationTargetException;
import java.lang.reflect.Method;
import java.lang.reflect.Modifier;
import java.nio.file.Files;
import java.nio.file.Path;
import java.util.Map;
import java.util.Set;
import java.util.TreeMap;
import java.util.TreeSet;
import java.util.regex.Matcher;
import java.util.regex.Pattern;

/** README.md is read, and what it tells of calls is asked of the class: its examples and its table of what is refused. */
public final class ReadmeTest {
    private static final Pattern EXAMPLE = Pattern.compile("room\\.(\\w+)\\(([^)]*)\\);\\s*// (-?\\d+|true|false|throws \\w+)\\b.*");
    private static final Pattern ROW = Pattern.compile("\\| (`.*?) \\| (.*?) \\|");
    private static final Pattern NAME = Pattern.compile("`(\\w+)`");

    private static final Map<String, Method> FACE = new TreeMap<>();

    private ReadmeTest() {
    }

    public static void main(String[] args) throws IOException, IllegalAccessException {
        for (Method method : GlassRoom.class.getDeclaredMethods()) {
            if (Modifier.isPublic(method.getModifiers())) {
                FACE.put(method.getName(), method);
            }
        }
        String[] lines = Files.readString(Path.of("README.md")).split("\n");
        examples(lines);
        refusals(lines);
        Check.finish("ReadmeTest");
    }

    private static void examples(String[] lines) throws IllegalAccessException {
        GlassRoom room = new GlassRoom();
        int examples = 0;
        for (String line : lines) {
            if (line.equals("GlassRoom room = new GlassRoom();")) {
                room = new GlassRoom();
            } else if (line.startsWith("room.")) {
                Matcher matcher = EXAMPLE.matcher(line);
                Check.due("'" + line + "' has a call and its answer", matcher.matches(), true);
                Method method = matcher.matches() ? FACE.get(matcher.group(1)) : null;
                Check.due("'" + line + "' is a call of the face", method != null, true);
                if (method != null) {
                    same(line, answer(room, method, matcher.group(2)), matcher.group(3));
                    examples++;
                }
            }
        }
        Check.due("there are examples", examples > 0, true);
    }

    /** On a full tape and without a hall each call is refused if all its numbers are the lowest. */
    private static void refusals(String[] lines) throws IllegalAccessException {
        Set<String> told = new TreeSet<>();
        for (String line : lines) {
            Matcher row = ROW.matcher(line);
            if (!row.matches()) {
                continue;
            }
            Matcher name = NAME.matcher(row.group(1));
            while (name.find()) {
                Method method = FACE.get(name.group(1));
                Check.due(name.group(1) + " is of the face", method != null, true);
                Check.due(name.group(1) + " stands in the table once", told.add(name.group(1)), true);
                if (method != null) {
                    same("refused " + name.group(1), answer(fullTape(), method, lowest(method)), plainAnswer(row.group(2)));
                }
            }
        }
        Check.due("the table has every call of the face", told.equals(FACE.keySet()), true);
    }

    private static GlassRoom fullTape() {
        GlassRoom room = new GlassRoom();
        for (int k = 0; k < 8; k++) {
            room.feed(-1, -1, -1, -1, -1);
        }
        return room;
    }

    private static String lowest(Method method) {
        StringBuilder text = new StringBuilder();
        for (Class<?> type : method.getParameterTypes()) {
            text.append(text.length() > 0 ? ", " : "").append(type == long.class ? Long.MIN_VALUE : Integer.MIN_VALUE);
        }
        return text.toString();
    }

    private static String plainAnswer(String told) {
        String plain = told.replace("`", "");
        if (plain.equals("NONE")) {
            return String.valueOf(GlassRoom.NONE);
        }
        return plain.equals("HIDDEN") ? String.valueOf(GlassRoom.HIDDEN) : plain;
    }

    private static String answer(GlassRoom room, Method method, String told) throws IllegalAccessException {
        Class<?>[] types = method.getParameterTypes();
        String[] texts = told.isEmpty() ? new String[0] : told.split(", ");
        if (texts.length != types.length) {
            return "not as many numbers as the call takes";
        }
        Object[] numbers = new Object[types.length];
        for (int k = 0; k < types.length; k++) {
            long number = texts[k].equals("GlassRoom.NONE") ? GlassRoom.NONE : Long.decode(texts[k].replace("L", ""));
            if (types[k] == long.class) {
                numbers[k] = number;
            } else {
                numbers[k] = (int) number;
            }
        }
        try {
            return String.valueOf(method.invoke(room, numbers));
        } catch (InvocationTargetException e) {
            return "throws " + e.getCause().getClass().getSimpleName();
        }
    }

    private static void same(String what, String got, String want) {
        Check.due(what + " (answered " + got + ", told is " + want + ")", got.equals(want), true);
    }
}
