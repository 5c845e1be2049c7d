import java.io.IOException;
import java.nio.file.Files;
import java.nio.file.Path;

/** What the tests share: feeding texts, comparing answers, the document's words, the exit code. */
final class Check {
    static final int LOW = Integer.MIN_VALUE;
    static final int HIGH = Integer.MAX_VALUE;

    private static final Path DOCUMENT = Path.of("../shared/DOC.md");

    private static int wrong = 0;
    private static int compared = 0;
    private static String words = "";
    private static String document;

    private Check() {
    }

    /** The document's own words, by which the answers behind it are due; they must stand there. */
    static void by(String quoted) {
        words = quoted;
        if (document == null) {
            document = readDocument();
        }
        if (!document.isEmpty()) {
            due("the document has these words", document.contains(plain(quoted)), true);
        }
    }

    private static String readDocument() {
        try {
            return plain(Files.readString(DOCUMENT));
        } catch (IOException e) {
            System.out.println("no " + DOCUMENT + " here: the tests' quotations were not looked up in it");
            return "";
        }
    }

    private static String plain(String text) {
        return text.replaceAll("\\s+", " ");
    }

    static void due(String what, long got, long want) {
        compared++;
        if (got != want) {
            wrong++;
            if (wrong <= 50) {
                String by = words.isEmpty() ? "" : "by \"" + words + "\": ";
                System.out.println(by + what + " answered " + got + ", due is " + want);
            }
        }
    }

    static void due(String what, boolean got, boolean want) {
        due(what, got ? 1 : 0, want ? 1 : 0);
    }

    static boolean anyWrong() {
        return wrong > 0;
    }

    /** Twenty bytes a call; the last answer of feed. */
    static int feed(GlassRoom room, String text) {
        int answer = 0;
        for (int from = 0; from < text.length() || from == 0; from += 20) {
            answer = room.feed(word(text, from), word(text, from + 4), word(text, from + 8), word(text, from + 12),
                    word(text, from + 16));
        }
        return answer;
    }

    static int word(String text, int from) {
        int word = 0;
        for (int k = from; k < from + 4; k++) {
            word = word << 8 | (k < text.length() ? text.charAt(k) : 0);
        }
        return word;
    }

    static GlassRoom room(String hall) {
        GlassRoom room = new GlassRoom();
        feed(room, hall);
        if (room.text(0) < 0) {
            throw new IllegalStateException("the test's own hall is refused: " + hall);
        }
        return room;
    }

    static int addLight(GlassRoom room, String light) {
        feed(room, light);
        return room.text(1);
    }

    /** The fault of a text that comes to a new object. */
    static int faultOf(int sort, String text) {
        GlassRoom room = new GlassRoom();
        feed(room, text);
        return room.fault(sort);
    }

    /** That text refuses just what has a fault, and leaves it on the tape then, is asked along with it. */
    static void faultIs(int sort, String text, int fault) {
        GlassRoom room = new GlassRoom();
        int length = feed(room, text);
        due("fault " + sort + " of '" + text + "'", room.fault(sort), fault);
        due("fault " + sort + " of '" + text + "', asked twice", room.fault(sort), fault);
        boolean taken = room.text(sort) != GlassRoom.NONE;
        due("text " + sort + " takes '" + text + "'", taken, fault == GlassRoom.NONE);
        due("tape behind text of '" + text + "'", room.count(6), taken ? 0 : length);
    }

    /** Texts and their faults in turn. */
    static void faultsAre(int sort, Object... table) {
        for (int k = 0; k + 1 < table.length; k += 2) {
            faultIs(sort, (String) table[k], (Integer) table[k + 1]);
        }
    }

    static boolean bodyThrows(GlassRoom room, int body, int what) {
        try {
            room.body(body, what);
            return false;
        } catch (java.util.NoSuchElementException e) {
            return true;
        }
    }

    static void finish(String name) {
        System.out.println(name + ": " + compared + " answers, " + wrong + " not as due");
        if (wrong > 0 || compared == 0) {
            System.exit(1);
        }
    }
}
