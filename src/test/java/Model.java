import java.math.BigInteger;
import java.util.ArrayDeque;
import java.util.ArrayList;
import java.util.Collections;
import java.util.HashSet;
import java.util.List;
import java.util.NoSuchElementException;
import java.util.Set;
import java.util.TreeSet;

/**
 * The document a second time, as slowly and as literally as can be, and by other ways than the class goes: all
 * parses instead of one, splitting texts instead of signs in a row, lists of images, a ball that rolls.
 */
final class Model {
    static final int NONE = -1;
    static final int HIDDEN = -100000000;

    record Body(int x, int y, int arm) {
    }

    record Image(int i, int j, int x, int y) {
        int glasses() {
            return Math.abs(i) + Math.abs(j);
        }
    }

    record State(List<Body> bodies, int glass) {
    }

    record Photo(int eye, int far) {
    }

    private String tape = "";
    private List<Body> bodies = new ArrayList<>();
    private int width;
    private int height;
    private int glass;
    private int takes;
    private final List<String> lights = new ArrayList<>();
    private int holds = NONE;
    private final ArrayDeque<State> acts = new ArrayDeque<>();
    private final List<Photo> photos = new ArrayList<>();
    private State kept;

    // ---- the tape

    int feed(int... numbers) {
        StringBuilder more = new StringBuilder(tape);
        for (int number : numbers) {
            for (int k = 3; k >= 0; k--) {
                int sign = number >> 8 * k & 255;
                if (sign > 0) {
                    more.append((char) sign);
                }
            }
        }
        if (more.length() > 160) {
            return NONE;
        }
        tape = more.toString();
        return tape.length();
    }

    boolean end(int n) {
        if (n < 0 || n > tape.length()) {
            return false;
        }
        tape = tape.substring(0, n);
        return true;
    }

    int fault(int sort) {
        return sort == 0 ? hallFault(tape) : sort == 1 ? lightFault(tape) : -2;
    }

    int text(int sort) {
        if (sort != 0 && sort != 1 || fault(sort) != NONE || sort == 1 && lights.size() == 4) {
            return NONE;
        }
        String text = tape;
        tape = "";
        if (sort == 1) {
            lights.add(text.replace(" ", ""));
            return lights.size() - 1;
        }
        takeHall(text.replace(" ", ""));
        return bodies.size();
    }

    private void takeHall(String text) {
        width = 10;
        height = 8;
        glass = 15;
        takes = 10;
        bodies = new ArrayList<>();
        for (String clause : text.split(";")) {
            if (clause.charAt(0) == 'r') {
                width = item(clause, 'w', 10);
                height = item(clause, 'h', 8);
                glass = item(clause, 'g', 15);
                takes = item(clause, 't', 10);
            } else {
                bodies.add(new Body(item(clause, 'x', 1), item(clause, 'y', 1), item(clause, 'a', 1)));
            }
        }
        acts.clear();
        photos.clear();
        kept = null;
    }

    private static int item(String clause, char letter, int usual) {
        int at = clause.indexOf(letter, 1);
        if (at < 0) {
            return usual;
        }
        int end = at + 1;
        while (end < clause.length() && Character.isDigit(clause.charAt(end))) {
            end++;
        }
        return Integer.parseInt(clause.substring(at + 1, end));
    }

    /** A machine of few states over signs and whole numbers. */
    static int hallFault(String text) {
        int state = 0; // 0 a clause is due, 1 an item, a ; or the end, 2 a number
        int rooms = 0;
        int many = 0;
        char clause = ' ';
        char letter = ' ';
        String told = "";
        int[] room = {10, 8};
        int widest = 0;
        int highest = 0;
        int x = 1;
        int y = 1;
        for (int at = 0; at < text.length(); at++) {
            char sign = text.charAt(at);
            if (sign == ' ') {
                continue;
            }
            if (state == 0) {
                if (sign == 'r' && rooms == 0) {
                    rooms++;
                } else if (sign == 'b' && many < 6) {
                    many++;
                } else {
                    return at;
                }
                clause = sign;
                told = "";
                x = 1;
                y = 1;
                state = 1;
            } else if (state == 1) {
                if (sign == ';') {
                    state = 0;
                } else if ((clause == 'r' ? "whgt" : "xya").indexOf(sign) >= 0 && told.indexOf(sign) < 0) {
                    told += sign;
                    letter = sign;
                    state = 2;
                } else {
                    return at;
                }
            } else {
                int end = at;
                while (end < text.length() && text.charAt(end) >= '0' && text.charAt(end) <= '9') {
                    end++;
                }
                if (end == at) {
                    return at;
                }
                if (end - at > 2) {
                    return at + 2;
                }
                int number = Integer.parseInt(text.substring(at, end));
                int most = letter == 'g' ? 15 : letter == 't' ? 99 : letter == 'a' ? 1 : 20;
                if (number > most || number == 0 && (letter == 'w' || letter == 'h')) {
                    return end - 1;
                }
                if (letter == 'w' || letter == 'h') {
                    room[letter == 'w' ? 0 : 1] = number;
                }
                widest = letter == 'x' ? Math.max(widest, number) : widest;
                highest = letter == 'y' ? Math.max(highest, number) : highest;
                at = end - 1;
                state = 1;
            }
        }
        if (state != 1 || many == 0 || widest > room[0] || highest > room[1]) {
            return text.length();
        }
        return NONE;
    }

    // ---- lights: every parse is tried; where the farthest sign was looked for in vain no text can go on

    private static int farthest;

    static int lightFault(String text) {
        farthest = 0;
        Set<Integer> starts = Set.of(0);
        for (int clause = 0; clause < 90 && !starts.isEmpty(); clause++) {
            Set<Integer> ends = clauseEnds(text, starts);
            for (int end : ends) {
                if (blanks(text, end) == text.length()) {
                    return NONE;
                }
            }
            starts = signEnds(text, ends, ";");
        }
        return farthest;
    }

    private static Set<Integer> clauseEnds(String text, Set<Integer> starts) {
        Set<Integer> colon = signEnds(text, signEnds(text, starts, "y"), ":");
        Set<Integer> plain = sumEnds(text, colon, 0);
        Set<Integer> behind = sumEnds(text, signEnds(text, conditionEnds(text, colon, 0), "?"), 0);
        Set<Integer> both = new TreeSet<>(plain);
        both.addAll(behind);
        return both;
    }

    private static Set<Integer> conditionEnds(String text, Set<Integer> starts, int depth) {
        Set<Integer> all = new TreeSet<>();
        Set<Integer> now = truthEnds(text, starts, depth);
        while (all.addAll(now)) {
            now = truthEnds(text, signEnds(text, now, "|"), depth);
        }
        return all;
    }

    private static Set<Integer> truthEnds(String text, Set<Integer> starts, int depth) {
        Set<Integer> all = new TreeSet<>();
        Set<Integer> now = unitEnds(text, starts, depth);
        while (all.addAll(now)) {
            now = unitEnds(text, signEnds(text, now, "&"), depth);
        }
        return all;
    }

    private static Set<Integer> unitEnds(String text, Set<Integer> starts, int depth) {
        Set<Integer> all = new TreeSet<>();
        if (starts.isEmpty()) {
            return all;
        }
        if (depth < 6) {
            Set<Integer> not = signEnds(text, starts, "!");
            all.addAll(unitEnds(text, not, depth + 1));
            Set<Integer> open = signEnds(text, starts, "(");
            if (!open.isEmpty()) {
                all.addAll(signEnds(text, conditionEnds(text, open, depth + 1), ")"));
            }
        }
        all.addAll(sumEnds(text, signEnds(text, sumEnds(text, starts, depth), "=<>"), depth));
        return all;
    }

    private static Set<Integer> sumEnds(String text, Set<Integer> starts, int depth) {
        Set<Integer> all = new TreeSet<>();
        Set<Integer> now = atomEnds(text, starts, depth);
        while (all.addAll(now)) {
            now = atomEnds(text, signEnds(text, now, "+-*/"), depth);
        }
        return all;
    }

    private static Set<Integer> atomEnds(String text, Set<Integer> starts, int depth) {
        Set<Integer> all = new TreeSet<>(signEnds(text, starts, "nftijb"));
        for (int start : starts) {
            int at = blanks(text, start);
            int end = at;
            while (end < text.length() && "0123456789".indexOf(text.charAt(end)) >= 0 && end - at < 5) {
                end++;
            }
            if (end - at == 5) {
                farthest = Math.max(farthest, end - 1);
            } else if (end > at) {
                all.add(end);
            }
        }
        if (depth < 6) {
            Set<Integer> open = signEnds(text, starts, "[");
            if (!open.isEmpty()) {
                all.addAll(signEnds(text, sumEnds(text, open, depth + 1), "]"));
            }
        }
        return all;
    }

    private static Set<Integer> signEnds(String text, Set<Integer> starts, String signs) {
        Set<Integer> ends = new TreeSet<>();
        for (int start : starts) {
            int at = blanks(text, start);
            farthest = Math.max(farthest, at);
            if (at < text.length() && signs.indexOf(text.charAt(at)) >= 0) {
                ends.add(at + 1);
            }
        }
        return ends;
    }

    private static int blanks(String text, int from) {
        int at = from;
        while (at < text.length() && text.charAt(at) == ' ') {
            at++;
        }
        return at;
    }

    /** The worth of a light without blanks, by splitting it at its weakest sign. */
    static long worth(String light, long[] letters) {
        for (String clause : light.split(";")) {
            String rest = clause.substring(2);
            int ask = rest.indexOf('?');
            if (ask < 0) {
                return sum(rest, letters);
            }
            if (condition(rest.substring(0, ask), letters)) {
                return sum(rest.substring(ask + 1), letters);
            }
        }
        return 0;
    }

    private static boolean condition(String text, long[] letters) {
        int at = lastOutside(text, "|");
        if (at >= 0) {
            return condition(text.substring(0, at), letters) | condition(text.substring(at + 1), letters);
        }
        at = lastOutside(text, "&");
        if (at >= 0) {
            return condition(text.substring(0, at), letters) & condition(text.substring(at + 1), letters);
        }
        if (text.charAt(0) == '!') {
            return !condition(text.substring(1), letters);
        }
        if (text.charAt(0) == '(') {
            return condition(text.substring(1, text.length() - 1), letters);
        }
        at = lastOutside(text, "=<>");
        long left = sum(text.substring(0, at), letters);
        long right = sum(text.substring(at + 1), letters);
        char sign = text.charAt(at);
        return sign == '=' ? left == right : sign == '<' ? left < right : left > right;
    }

    private static long sum(String text, long[] letters) {
        int at = lastOutside(text, "+-");
        if (at < 0) {
            at = lastOutside(text, "*/");
        }
        if (at >= 0) {
            long left = sum(text.substring(0, at), letters);
            long right = sum(text.substring(at + 1), letters);
            char sign = text.charAt(at);
            long result = sign == '+' ? left + right : sign == '-' ? left - right : sign == '*' ? left * right
                    : right == 0 ? 0 : left / right;
            return Math.max(-1000000L, Math.min(1000000L, result));
        }
        if (text.charAt(0) == '[') {
            return sum(text.substring(1, text.length() - 1), letters);
        }
        int letter = "nftijb".indexOf(text.charAt(0));
        return letter >= 0 ? letters[letter] : Long.parseLong(text);
    }

    private static int lastOutside(String text, String signs) {
        int depth = 0;
        for (int at = text.length() - 1; at >= 0; at--) {
            char sign = text.charAt(at);
            depth += sign == ')' || sign == ']' ? 1 : sign == '(' || sign == '[' ? -1 : 0;
            if (depth == 0 && signs.indexOf(sign) >= 0) {
                return at;
            }
        }
        return -1;
    }

    // ---- bodies and acts

    private boolean has(int body) {
        return body >= 0 && body < bodies.size();
    }

    int body(int body, int what) {
        if (!has(body) || what < 0 || what > 2) {
            throw new NoSuchElementException();
        }
        Body it = bodies.get(body);
        return new int[] {it.x, it.y, it.arm}[what];
    }

    boolean light(int light) {
        if (light < -1 || light >= lights.size()) {
            return false;
        }
        holds = light;
        return true;
    }

    private State state() {
        return new State(List.copyOf(bodies), glass);
    }

    private void take(State state) {
        bodies = new ArrayList<>(state.bodies);
        glass = state.glass;
    }

    private void act() {
        acts.addLast(state());
        if (acts.size() > 40) {
            acts.removeFirst();
        }
    }

    private boolean inside(int x, int y) {
        return x >= 0 && x <= width && y >= 0 && y <= height;
    }

    int move(int body, int x, int y) {
        if (!has(body) || !inside(x, y) || bodies.get(body).x == x && bodies.get(body).y == y) {
            return NONE;
        }
        act();
        bodies.set(body, new Body(x, y, bodies.get(body).arm));
        return acts.size();
    }

    int glass(int walls) {
        if (bodies.isEmpty() || walls < 0 || walls > 15 || walls == glass) {
            return NONE;
        }
        act();
        glass = walls;
        return acts.size();
    }

    int steps(int n, long seed) {
        if (bodies.isEmpty() || n < 1 || n > 40) {
            return NONE;
        }
        BigInteger round = BigInteger.ONE.shiftLeft(64);
        BigInteger x = BigInteger.valueOf(seed).mod(round);
        for (int step = 0; step < n; step++) {
            act();
            for (int b = 0; b < bodies.size(); b++) {
                x = x.multiply(new BigInteger("6364136223846793005")).add(new BigInteger("1442695040888963407")).mod(round);
                int draw = x.shiftRight(33).mod(BigInteger.valueOf(5)).intValue();
                Body it = bodies.get(b);
                int toX = it.x + new int[] {0, 1, 0, -1, 0}[draw];
                int toY = it.y + new int[] {0, 0, 1, 0, -1}[draw];
                if (inside(toX, toY)) {
                    bodies.set(b, new Body(toX, toY, it.arm));
                }
            }
        }
        return acts.size();
    }

    int undo() {
        if (acts.isEmpty()) {
            return NONE;
        }
        take(acts.removeLast());
        return acts.size();
    }

    int keep() {
        if (bodies.isEmpty()) {
            return NONE;
        }
        kept = state();
        return acts.size();
    }

    int back() {
        if (kept == null) {
            return NONE;
        }
        take(kept);
        acts.clear();
        return 0;
    }

    // ---- images

    private static boolean inCells(int i, int j) {
        return i >= -10 && i <= 10 && j >= -10 && j <= 10;
    }

    private Image imageOf(int x, int y, int i, int j) {
        int atX = i % 2 == 0 ? i * width + x : i * width + width - x;
        int atY = j % 2 == 0 ? j * height + y : j * height + height - y;
        return new Image(i, j, atX, atY);
    }

    private Image imageOf(int body, int i, int j) {
        return imageOf(bodies.get(body).x, bodies.get(body).y, i, j);
    }

    private static boolean there(int cell, boolean low, boolean high) {
        if (low && high) {
            return true;
        }
        return cell == 0 || high && cell == 1 || low && cell == -1;
    }

    private static boolean there(int walls, int i, int j) {
        return there(i, (walls & 1) != 0, (walls & 2) != 0) && there(j, (walls & 4) != 0, (walls & 8) != 0);
    }

    private List<Image> images(int body, int walls) {
        List<Image> all = new ArrayList<>();
        for (int i = -10; i <= 10; i++) {
            for (int j = -10; j <= 10; j++) {
                if (there(walls, i, j)) {
                    all.add(imageOf(body, i, j));
                }
            }
        }
        return all;
    }

    private int far(Image image, int eye) {
        int dx = image.x - bodies.get(eye).x;
        int dy = image.y - bodies.get(eye).y;
        return dx * dx + dy * dy;
    }

    private int bright(int glasses) {
        long bright = 1000000;
        for (int k = 0; k < glasses; k++) {
            bright = bright * (100 - takes) / 100;
        }
        return (int) bright;
    }

    int image(int body, int i, int j, int what) {
        if (!has(body) || !inCells(i, j) || what < 0 || what > 4) {
            return HIDDEN;
        }
        Image it = imageOf(body, i, j);
        int arm = bodies.get(body).arm;
        return new int[] {it.x, it.y, it.glasses() % 2 == 0 ? arm : arm == 0 ? 1 : 0, bright(it.glasses()),
                there(glass, i, j) ? 1 : 0}[what];
    }

    int far(int body, int i, int j, int eye) {
        return has(body) && has(eye) && inCells(i, j) ? far(imageOf(body, i, j), eye) : NONE;
    }

    private long lightOf(Image it, int eye) {
        int bright = bright(it.glasses());
        if (holds == NONE) {
            return bright;
        }
        return worth(lights.get(holds),
                new long[] {it.glasses(), far(it, eye), it.glasses() % 2, it.i, it.j, bright});
    }

    int lightOf(int body, int i, int j, int eye) {
        return has(body) && has(eye) && inCells(i, j) ? (int) lightOf(imageOf(body, i, j), eye) : HIDDEN;
    }

    int near(int body, int eye, int n, int what) {
        if (!has(body) || !has(eye) || what < 0 || what > 2 || n < 0) {
            return HIDDEN;
        }
        List<Image> all = images(body, glass);
        Collections.sort(all, (a, b) -> far(a, eye) != far(b, eye) ? Integer.compare(far(a, eye), far(b, eye))
                : a.i != b.i ? Integer.compare(a.i, b.i) : Integer.compare(a.j, b.j));
        if (n >= all.size()) {
            return HIDDEN;
        }
        Image it = all.get(n);
        return what == 0 ? it.i : what == 1 ? it.j : far(it, eye);
    }

    int within(int body, int eye, int far) {
        if (!has(body) || !has(eye) || far < 0 || far > 99) {
            return NONE;
        }
        return (int) images(body, glass).stream().filter(it -> Math.sqrt(far(it, eye)) <= far + 1e-9).count();
    }

    int brighter(int eye, int least) {
        if (!has(eye)) {
            return NONE;
        }
        int many = 0;
        for (int body = 0; body < bodies.size(); body++) {
            many += images(body, glass).stream().filter(it -> lightOf(it, eye) >= least).count();
        }
        return many;
    }

    private boolean sees(int body, Image it, int eye, int walls) {
        if (!there(walls, it.i, it.j)) {
            return false;
        }
        int ex = bodies.get(eye).x;
        int ey = bodies.get(eye).y;
        int dx = it.x - ex;
        int dy = it.y - ey;
        for (int third = 0; third < bodies.size(); third++) {
            if (third == eye || third == body) {
                continue;
            }
            for (Image other : images(third, walls)) {
                int ox = other.x - ex;
                int oy = other.y - ey;
                int along = ox * dx + oy * dy;
                if (ox * dy == oy * dx && along > 0 && along < dx * dx + dy * dy) {
                    return false;
                }
            }
        }
        return true;
    }

    int seen(int body, int i, int j, int eye) {
        if (!has(body) || !has(eye) || !inCells(i, j)) {
            return NONE;
        }
        return sees(body, imageOf(body, i, j), eye, glass) ? 1 : 0;
    }

    private int view(int body, int eye, int n, int walls) {
        return (int) images(body, walls).stream().filter(it -> it.glasses() <= n && sees(body, it, eye, walls)).count();
    }

    int view(int body, int eye, int n) {
        return has(body) && has(eye) && n >= 0 && n <= 6 ? view(body, eye, n, glass) : NONE;
    }

    int walls(int eye, int least) {
        if (!has(eye) || least < 0 || least > 25) {
            return NONE;
        }
        int best = NONE;
        for (int walls = 15; walls >= 0; walls--) {
            boolean enough = true;
            for (int body = 0; body < bodies.size() && enough; body++) {
                enough = body == eye || view(body, eye, 2, walls) >= least;
            }
            if (enough && (best == NONE || Integer.bitCount(walls) <= Integer.bitCount(best))) {
                best = walls;
            }
        }
        return best;
    }

    // ---- the ball

    private static boolean way(int right, int up) {
        return Math.abs((long) right) <= 9 && Math.abs((long) up) <= 9 && (right != 0 || up != 0);
    }

    private static int gcd(int a, int b) {
        return BigInteger.valueOf(a).gcd(BigInteger.valueOf(b)).intValue();
    }

    int hits(int body, int right, int up, int other, int what) {
        if (!has(body) || !has(other) || !way(right, up) || what < 0 || what > 2) {
            return HIDDEN;
        }
        int part = gcd(right, up);
        List<Image> all = images(other, 15);
        for (int k = 1; k <= 500; k++) {
            int x = bodies.get(body).x + k * right / part;
            int y = bodies.get(body).y + k * up / part;
            Image best = null;
            for (Image it : all) {
                if (it.x == x && it.y == y && (best == null || it.glasses() < best.glasses())) {
                    best = it;
                }
            }
            if (best != null) {
                return what == 0 ? best.glasses() : what == 1 ? best.i : best.j;
            }
        }
        return HIDDEN;
    }

    /** It rolls, tick by tick, from a place where it meets every wall at a whole tick. */
    int round(int right, int up) {
        if (bodies.isEmpty() || !way(right, up)) {
            return NONE;
        }
        int unit = 2 * Math.max(1, Math.abs(right)) * Math.max(1, Math.abs(up));
        int x = unit / 2;
        int y = unit / 2;
        int byX = right;
        int byY = up;
        int cushions = 0;
        for (int tick = 0; tick < 10000000; tick++) {
            x += byX;
            y += byY;
            if (byX != 0 && (x == 0 || x == width * unit)) {
                byX = -byX;
                cushions++;
            }
            if (byY != 0 && (y == 0 || y == height * unit)) {
                byY = -byY;
                cushions++;
            }
            if (x == unit / 2 && y == unit / 2 && byX == right && byY == up) {
                return cushions;
            }
        }
        throw new IllegalStateException("the ball never came round");
    }

    int ways(int body, int other, int n) {
        if (!has(body) || !has(other) || n < 0 || n > 10) {
            return NONE;
        }
        Set<List<Integer>> places = new HashSet<>();
        for (Image it : images(other, 15)) {
            if (it.glasses() == n) {
                places.add(List.of(it.x, it.y));
            }
        }
        places.remove(List.of(bodies.get(body).x, bodies.get(body).y));
        return places.size();
    }

    // ---- glasses on walls

    /** Above and below, or null: the straight way from the eye to the body's image behind the wall, cut by it. */
    private int[] hang(int eye, int body, int wall) {
        Body e = bodies.get(eye);
        Body b = bodies.get(body);
        boolean upright = wall < 2;
        int line = wall == 1 ? width : wall == 3 ? height : 0;
        int fromAcross = upright ? e.x : e.y;
        int toAcross = 2 * line - (upright ? b.x : b.y);
        int fromAlong = upright ? e.y : e.x;
        int toAlong = upright ? b.y : b.x;
        if (fromAcross == toAcross) {
            return null;
        }
        int below = toAcross - fromAcross;
        int above = fromAlong * below + (toAlong - fromAlong) * (line - fromAcross);
        return plain(above, below);
    }

    private static int[] plain(int above, int below) {
        int part = gcd(above, below) * (below < 0 ? -1 : 1);
        return new int[] {above / part, below / part};
    }

    int hang(int eye, int body, int wall, int part) {
        if (!has(eye) || !has(body) || eye == body || wall < 0 || wall > 3 || part < 0 || part > 1) {
            return NONE;
        }
        int[] it = hang(eye, body, wall);
        return it == null ? NONE : it[part];
    }

    int pane(int eye, int wall, int part) {
        if (!has(eye) || wall < 0 || wall > 3 || part < 0 || part > 1) {
            return NONE;
        }
        List<int[]> all = new ArrayList<>();
        for (int body = 0; body < bodies.size(); body++) {
            if (body != eye && hang(eye, body, wall) != null) {
                all.add(hang(eye, body, wall));
            }
        }
        if (all.isEmpty()) {
            return NONE;
        }
        all.sort((a, b) -> Integer.compare(a[0] * b[1], b[0] * a[1]));
        int[] least = all.get(0);
        int[] most = all.get(all.size() - 1);
        return plain(most[0] * least[1] - least[0] * most[1], most[1] * least[1])[part];
    }

    /** How many unlike places, and how many of these are turned. */
    static int[] hinge(int a, int p) {
        int[] turns = new int[360]; // 0 nothing there, 1 not turned, 2 turned, 3 the place itself
        turns[p] = 3;
        for (int row = 0; row < 2; row++) {
            int place = p;
            int glass = row == 0 ? 0 : a;
            for (int thrown = 1; thrown < 1000; thrown++) {
                int off = glass == 0 ? place : Math.floorMod(place - a + 180, 360);
                if (off <= 0 || off >= 180) {
                    break;
                }
                place = Math.floorMod(2 * glass - place, 360);
                if (turns[place] == 0) {
                    turns[place] = thrown % 2 == 1 ? 2 : 1;
                }
                glass = glass == 0 ? a : 0;
            }
        }
        int many = 0;
        int turned = 0;
        for (int turn : turns) {
            many += turn == 1 || turn == 2 ? 1 : 0;
            turned += turn == 2 ? 1 : 0;
        }
        return new int[] {many, turned};
    }

    int hinge(int a, int p, int what) {
        return a < 1 || a > 180 || p <= 0 || p >= a || what < 0 || what > 1 ? NONE : hinge(a, p)[what];
    }

    private static List<Set<Integer>> shown;

    int angles(int many, int i) {
        if (shown == null) {
            shown = new ArrayList<>();
            for (int a = 1; a <= 180; a++) {
                Set<Integer> counts = new HashSet<>();
                for (int p = 1; p < a; p++) {
                    counts.add(hinge(a, p)[0]);
                }
                shown.add(counts);
            }
        }
        List<Integer> found = new ArrayList<>();
        for (int a = 1; a <= 180; a++) {
            if (shown.get(a - 1).contains(many)) {
                found.add(a);
            }
        }
        return i == NONE ? found.size() : i >= 0 && i < found.size() ? found.get(i) : NONE;
    }

    int beads(int k, int c) {
        if (k < 1 || k > 12 || c < 1 || c > 4) {
            return NONE;
        }
        int rows = 1;
        for (int bead = 0; bead < k; bead++) {
            rows *= c;
        }
        int unlike = 0;
        for (int row = 0; row < rows; row++) {
            int behind = 0;
            int rest = row;
            for (int bead = 0; bead < k; bead++) {
                behind = behind * c + rest % c;
                rest /= c;
            }
            unlike += row <= behind ? 1 : 0;
        }
        return unlike;
    }

    // ---- photographs

    int photo(int eye, int far) {
        if (!has(eye) || far < 0 || far > 99999 || photos.size() == 12) {
            return NONE;
        }
        photos.add(new Photo(eye, far));
        return photos.size();
    }

    private boolean shows(Photo photo, int x, int y) {
        for (int i = -2; i <= 2; i++) {
            for (int j = -2; j <= 2; j++) {
                if (there(glass, i, j) && far(imageOf(x, y, i, j), photo.eye) == photo.far) {
                    return true;
                }
            }
        }
        return false;
    }

    int fits(int i) {
        if (bodies.isEmpty()) {
            return NONE;
        }
        TreeSet<Integer> places = new TreeSet<>();
        for (int y = 0; y <= height; y++) {
            for (int x = 0; x <= width; x++) {
                boolean all = true;
                for (Photo photo : photos) {
                    all &= shows(photo, x, y);
                }
                if (all) {
                    places.add(100 * x + y);
                }
            }
        }
        List<Integer> rising = new ArrayList<>(places);
        return i == NONE ? rising.size() : i >= 0 && i < rising.size() ? rising.get(i) : NONE;
    }

    int count(int what) {
        boolean hall = !bodies.isEmpty();
        int[] all = {bodies.size(), hall ? width : 0, hall ? height : 0, hall ? glass : 0, hall ? takes : 0,
                lights.size(), tape.length(), holds, photos.size(), acts.size()};
        return what >= 0 && what < all.length ? all[what] : HIDDEN;
    }
}
