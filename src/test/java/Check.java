/** What the tests share: feeding texts, comparing answers, the exit code. */
final class Check {
    private static int wrong = 0;
    private static int compared = 0;

    private Check() {
    }

    static void due(String what, long got, long want) {
        compared++;
        if (got != want) {
            wrong++;
            if (wrong <= 50) {
                System.out.println(what + " answered " + got + ", due is " + want);
            }
        }
    }

    static void due(String what, boolean got, boolean want) {
        due(what, got ? 1 : 0, want ? 1 : 0);
    }

    static boolean anyWrong() {
        return wrong > 0;
    }

    /** Twenty bytes a call; the last answer of feed. */
    static int feed(GlassRoom room, String text) {
        int answer = 0;
        for (int from = 0; from < text.length() || from == 0; from += 20) {
            answer = room.feed(word(text, from), word(text, from + 4), word(text, from + 8), word(text, from + 12),
                    word(text, from + 16));
        }
        return answer;
    }

    static int word(String text, int from) {
        int word = 0;
        for (int k = from; k < from + 4; k++) {
            word = word << 8 | (k < text.length() ? text.charAt(k) : 0);
        }
        return word;
    }

    static GlassRoom room(String hall) {
        GlassRoom room = new GlassRoom();
        feed(room, hall);
        if (room.text(0) < 0) {
            throw new IllegalStateException("the test's own hall is refused: " + hall);
        }
        return room;
    }

    static int addLight(GlassRoom room, String light) {
        feed(room, light);
        return room.text(1);
    }

    static boolean bodyThrows(GlassRoom room, int body, int what) {
        try {
            room.body(body, what);
            return false;
        } catch (java.util.NoSuchElementException e) {
            return true;
        }
    }

    static void finish(String name) {
        System.out.println(name + ": " + compared + " answers, " + wrong + " not as due");
        if (wrong > 0 || compared == 0) {
            System.exit(1);
        }
    }
}
