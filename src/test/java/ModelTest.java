import java.util.NoSuchElementException;
import java.util.Random;

/** Runs of calls drawn by fixed seeds, asked of the class and of the slow model; and whole tables of both. */
public final class ModelTest {
    private static final int RUNS = 400;
    private static final int CALLS = 512;

    private final Random random;
    private final GlassRoom room = new GlassRoom();
    private final Model model = new Model();
    private final int run;

    private ModelTest(int run) {
        this.run = run;
        random = new Random(run);
    }

    public static void main(String[] args) {
        wholeTables();
        faultsOfTexts();
        for (int run = 0; run < RUNS && !Check.anyWrong(); run++) {
            new ModelTest(run).go();
        }
        Check.finish("ModelTest");
    }

    private static void wholeTables() {
        GlassRoom room = new GlassRoom();
        Model model = new Model();
        for (int a = -1; a <= 182; a++) {
            for (int p = -1; p <= a + 1; p++) {
                for (int what = -1; what <= 2; what++) {
                    Check.due("hinge " + a + " " + p + " " + what, room.hinge(a, p, what), model.hinge(a, p, what));
                }
            }
        }
        for (int many = -2; many <= 370; many++) {
            for (int i = -2; i <= 182; i++) {
                Check.due("angles " + many + " " + i, room.angles(many, i), model.angles(many, i));
            }
        }
        for (int k = -1; k <= 13; k++) {
            for (int c = -1; c <= 5; c++) {
                Check.due("beads " + k + " " + c, room.beads(k, c), model.beads(k, c));
            }
        }
        for (String hall : new String[] {"rw1h1;b", "rw20h20;b", "rw20h19;b", "rw6h4;b", "rw7h13;b"}) {
            GlassRoom hallRoom = Check.room(hall);
            Model hallModel = new Model();
            hallModel.feed(words(hall));
            hallModel.text(0);
            for (int right = -10; right <= 10; right++) {
                for (int up = -10; up <= 10; up++) {
                    Check.due(hall + " round " + right + " " + up, hallRoom.round(right, up), hallModel.round(right, up));
                }
            }
        }
    }

    private static int[] words(String text) {
        int[] words = new int[(text.length() + 3) / 4];
        for (int k = 0; k < words.length; k++) {
            words[k] = Check.word(text, 4 * k);
        }
        return words;
    }

    private static void faultsOfTexts() {
        Random random = new Random(5);
        for (int k = 0; k < 30000; k++) {
            int sort = k % 2;
            String text = k % 3 == 0 ? noise(random, sort) : spoilt(random, sort == 0 ? hall(random) : light(random));
            if (text.length() > 160) {
                continue;
            }
            GlassRoom room = new GlassRoom();
            Check.feed(room, text);
            Check.due("fault " + sort + " of '" + text + "'", room.fault(sort),
                    sort == 0 ? Model.hallFault(text) : Model.lightFault(text));
        }
    }

    private static String noise(Random random, int sort) {
        String signs = sort == 0 ? "rb;;  whgtxya0123456789" : "yy::;?&|!()[]=<>+-*/nftijb019  ";
        StringBuilder text = new StringBuilder(sort == 0 ? "" : "y:");
        int length = random.nextInt(25);
        for (int k = 0; k < length; k++) {
            text.append(signs.charAt(random.nextInt(signs.length())));
        }
        return text.toString();
    }

    private static String spoilt(Random random, String good) {
        StringBuilder text = new StringBuilder(good);
        int times = random.nextInt(3);
        String signs = "rbwhgtxya;y:?&|!()[]=<>+-*/nfij0129 \t\u00e9";
        for (int k = 0; k < times && text.length() > 0; k++) {
            int at = random.nextInt(text.length());
            char sign = signs.charAt(random.nextInt(signs.length()));
            switch (random.nextInt(4)) {
                case 0 -> text.deleteCharAt(at);
                case 1 -> text.insert(at, sign);
                case 2 -> text.setCharAt(at, sign);
                default -> text.setLength(at);
            }
        }
        return text.toString();
    }

    private static String blank(Random random) {
        return random.nextInt(9) == 0 ? " " : "";
    }

    private static String hall(Random random) {
        int width = 1 + random.nextInt(random.nextBoolean() ? 6 : 20);
        int height = 1 + random.nextInt(random.nextBoolean() ? 6 : 20);
        int glass = random.nextInt(3) == 0 ? random.nextInt(16) : 15;
        String rest = "w" + width + blank(random) + "h" + height;
        String roomClause = "r" + blank(random) + rest + "g" + glass + (random.nextBoolean() ? "t" + random.nextInt(100) : "");
        int bodies = 1 + random.nextInt(6);
        int roomAt = random.nextInt(bodies + 1);
        StringBuilder text = new StringBuilder(blank(random));
        for (int k = 0; k <= bodies; k++) {
            text.append(k > 0 ? blank(random) + ";" + blank(random) : "");
            if (k == roomAt) {
                text.append(roomClause);
                continue;
            }
            text.append("b");
            if (random.nextInt(5) > 0) {
                text.append("x").append(random.nextInt(width + 1)).append(blank(random));
            }
            if (random.nextInt(5) > 0) {
                text.append("y").append(blank(random)).append(random.nextInt(height + 1));
            }
            if (random.nextInt(3) == 0) {
                text.append("a").append(random.nextInt(2));
            }
        }
        return text.append(blank(random)).toString();
    }

    private static String light(Random random) {
        StringBuilder text = new StringBuilder();
        int clauses = 1 + random.nextInt(3);
        for (int k = 0; k < clauses; k++) {
            text.append(k > 0 ? ";" : "").append("y").append(blank(random)).append(":");
            if (random.nextInt(3) > 0) {
                text.append(condition(random, 0)).append("?").append(blank(random));
            }
            text.append(sum(random, 0));
        }
        return text.toString();
    }

    private static String condition(Random random, int depth) {
        String text = unit(random, depth);
        while (random.nextInt(3) == 0) {
            text += (random.nextBoolean() ? "&" : "|") + blank(random) + unit(random, depth);
        }
        return text;
    }

    private static String unit(Random random, int depth) {
        int sort = random.nextInt(8);
        if (sort == 0 && depth < 6) {
            return "!" + unit(random, depth + 1);
        }
        if (sort == 1 && depth < 6) {
            return "(" + condition(random, depth + 1) + ")";
        }
        return sum(random, depth) + "=<>".charAt(random.nextInt(3)) + sum(random, depth);
    }

    private static String sum(Random random, int depth) {
        String text = atom(random, depth);
        while (random.nextInt(3) == 0) {
            text += blank(random) + "+-*/".charAt(random.nextInt(4)) + atom(random, depth);
        }
        return text;
    }

    private static String atom(Random random, int depth) {
        int sort = random.nextInt(8);
        if (sort == 0 && depth < 6) {
            return "[" + sum(random, depth + 1) + "]";
        }
        if (sort < 4) {
            return "" + random.nextInt(new int[] {4, 30, 10000}[random.nextInt(3)]);
        }
        return "" + "nftijb".charAt(random.nextInt(6));
    }

    private void go() {
        int calls = 0;
        for (int times = 0; times < CALLS && !Check.anyWrong(); times++) {
            int sort = random.nextInt(100);
            if (calls < 3 || sort < 3) {
                calls += tell(0, hall(random));
            } else if (sort < 7) {
                calls += tell(1, light(random));
            } else {
                call(random.nextInt(33));
                calls++;
            }
        }
    }

    private int tell(int sort, String text) {
        due("end(0)", room.end(0), model.end(0));
        int[] words = words(text);
        for (int k = 0; k < words.length; k += 5) {
            int[] five = new int[5];
            for (int at = 0; at < 5; at++) {
                five[at] = k + at < words.length ? words[k + at] : 0;
            }
            due("feed of '" + text + "'", room.feed(five[0], five[1], five[2], five[3], five[4]), model.feed(five));
        }
        due("fault of '" + text + "'", room.fault(sort), model.fault(sort));
        due("text of '" + text + "'", room.text(sort), model.text(sort));
        return 3;
    }

    private void due(String what, long got, long want) {
        Check.due("run " + run + ": " + what, got, want);
    }

    private void due(String what, boolean got, boolean want) {
        due(what, got ? 1 : 0, want ? 1 : 0);
    }

    /** Mostly within from .. to, at times just outside, seldom far off. */
    private int number(int from, int to) {
        int sort = random.nextInt(40);
        if (sort == 0) {
            return from - 1;
        }
        if (sort == 1) {
            return to + 1;
        }
        if (sort == 2) {
            return new int[] {Integer.MIN_VALUE, Integer.MAX_VALUE, -1, 0}[random.nextInt(4)];
        }
        return from + random.nextInt(to - from + 1);
    }

    private int anyBody() {
        return number(0, Math.max(0, room.count(0) - 1));
    }

    private void call(int which) {
        int b = anyBody();
        int e = anyBody();
        int far = random.nextBoolean() ? 10 : 3;
        int i = number(-far, far);
        int j = number(-far, far);
        switch (which) {
            case 0 -> {
                int word = random.nextInt() & random.nextInt();
                due("feed " + word, room.feed(word, 0, word, 1, -1), model.feed(word, 0, word, 1, -1));
            }
            case 1 -> {
                int n = number(0, 160);
                due("end " + n, room.end(n), model.end(n));
            }
            case 2 -> {
                int sort = number(0, 1);
                due("fault " + sort, room.fault(sort), model.fault(sort));
            }
            case 3 -> {
                int sort = number(0, 1);
                due("text " + sort, room.text(sort), model.text(sort));
            }
            case 4 -> bodyCall(b, number(0, 2));
            case 5 -> {
                int n = number(-1, 3);
                due("light " + n, room.light(n), model.light(n));
            }
            case 6, 7 -> {
                int x = number(0, Math.max(1, room.count(1)));
                int y = number(0, Math.max(1, room.count(2)));
                due("move " + b + " " + x + " " + y, room.move(b, x, y), model.move(b, x, y));
            }
            case 8 -> {
                int walls = random.nextInt(3) == 0 ? 15 : number(0, 15);
                due("glass " + walls, room.glass(walls), model.glass(walls));
            }
            case 9 -> {
                int n = number(1, random.nextBoolean() ? 4 : 40);
                long seed = random.nextLong();
                due("steps " + n + " " + seed, room.steps(n, seed), model.steps(n, seed));
            }
            case 10, 11 -> due("undo", room.undo(), model.undo());
            case 12 -> {
                int what = number(0, 4);
                due("image " + b + " " + i + " " + j + " " + what, room.image(b, i, j, what), model.image(b, i, j, what));
            }
            case 13 -> due("far " + b + " " + i + " " + j + " " + e, room.far(b, i, j, e), model.far(b, i, j, e));
            case 14 -> due("lightOf " + b + " " + i + " " + j + " " + e, room.lightOf(b, i, j, e), model.lightOf(b, i, j, e));
            default -> askMore(which, b, e, i, j);
        }
    }

    private void bodyCall(int body, int what) {
        long got = Long.MIN_VALUE;
        long want = Long.MIN_VALUE;
        try {
            got = room.body(body, what);
        } catch (NoSuchElementException e) {
            got = Long.MAX_VALUE;
        }
        try {
            want = model.body(body, what);
        } catch (NoSuchElementException e) {
            want = Long.MAX_VALUE;
        }
        due("body " + body + " " + what, got, want);
    }

    private void askMore(int which, int b, int e, int i, int j) {
        switch (which) {
            case 15 -> {
                int n = number(0, random.nextBoolean() ? 440 : 12);
                int what = number(0, 2);
                due("near " + b + " " + e + " " + n + " " + what, room.near(b, e, n, what), model.near(b, e, n, what));
            }
            case 16 -> {
                int far = number(0, 99);
                due("within " + b + " " + e + " " + far, room.within(b, e, far), model.within(b, e, far));
            }
            case 17 -> {
                int least = random.nextBoolean() ? number(-20, 300) : number(0, 1000000);
                due("brighter " + e + " " + least, room.brighter(e, least), model.brighter(e, least));
            }
            case 18, 19 -> due("seen " + b + " " + i + " " + j + " " + e, room.seen(b, i, j, e), model.seen(b, i, j, e));
            case 20 -> {
                int n = number(0, 6);
                due("view " + b + " " + e + " " + n, room.view(b, e, n), model.view(b, e, n));
            }
            case 21 -> {
                int least = random.nextBoolean() ? number(0, 25) : number(0, 8);
                due("walls " + e + " " + least, room.walls(e, least), model.walls(e, least));
            }
            case 22, 23 -> {
                int range = random.nextBoolean() ? 9 : 2;
                int right = number(-range, range);
                int up = number(-range, range);
                int what = number(0, 2);
                due("hits " + b + " " + right + " " + up + " " + e + " " + what, room.hits(b, right, up, e, what),
                        model.hits(b, right, up, e, what));
            }
            case 24 -> {
                int right = number(-9, 9);
                int up = number(-9, 9);
                due("round " + right + " " + up, room.round(right, up), model.round(right, up));
            }
            case 25 -> {
                int n = number(0, 10);
                due("ways " + b + " " + e + " " + n, room.ways(b, e, n), model.ways(b, e, n));
            }
            case 26 -> {
                int wall = number(0, 3);
                int part = number(0, 1);
                due("hang " + e + " " + b + " " + wall + " " + part, room.hang(e, b, wall, part),
                        model.hang(e, b, wall, part));
            }
            case 27 -> {
                int wall = number(0, 3);
                int part = number(0, 1);
                due("pane " + e + " " + wall + " " + part, room.pane(e, wall, part), model.pane(e, wall, part));
            }
            case 28 -> {
                int far = random.nextInt(4) == 0 ? number(0, 99999) : model.far(b, number(-2, 2), number(-2, 2), e);
                due("photo " + e + " " + far, room.photo(e, far), model.photo(e, far));
            }
            case 29 -> {
                int n = number(-1, 20);
                due("fits " + n, room.fits(n), model.fits(n));
            }
            case 30 -> due("keep", room.keep(), model.keep());
            case 31 -> {
                if (random.nextBoolean()) {
                    due("back", room.back(), model.back());
                }
            }
            default -> {
                for (int what = -1; what <= 10; what++) {
                    due("count " + what, room.count(what), model.count(what));
                }
            }
        }
    }
}
