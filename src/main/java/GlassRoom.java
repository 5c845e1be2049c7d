import java.util.NoSuchElementException;

public final class GlassRoom {
    public static final int NONE = -1;
    public static final int HIDDEN = -100000000;

    private static final int NO_SUCH_SORT = -2;
    private static final int HALL_SORT = 0;
    private static final int LIGHT_SORT = 1;
    private static final int MOST_BYTES = 160;
    private static final int MOST_BODIES = 6;
    private static final int MOST_LIGHTS = 4;
    private static final int MOST_ACTS = 40;
    private static final int MOST_STEPS = 40;
    private static final int MOST_PHOTOS = 12;
    private static final int MOST_PHOTO_FAR = 99999;
    private static final int MOST_CELL = 10;
    private static final int CELLS = 2 * MOST_CELL + 1;
    private static final int MOST_GLASSES = 2 * MOST_CELL;
    private static final int ALL_WALLS = 15;
    private static final int WALL_GLASSES = 2;
    private static final int MOST_WORTH = 1000000;
    private static final long DRAW_TIMES = 6364136223846793005L;
    private static final long DRAW_MORE = 1442695040888963407L;

    private final Tape tape;
    private final Hall hall;
    private final HallReader hallReader;
    private final LightReader lightReader;
    private final Light[] lights;
    private final int[] letters;
    private final int[] stack;
    private final Acts acts;
    private final int[] keptRow;
    private final Distances distances;
    private final Sight sight;
    private final Ball ball;
    private final Hanger hanger;
    private final Photos photos;
    private int lightCount;
    private int holding;
    private boolean kept;

    public GlassRoom() {
        tape = new Tape();
        hall = new Hall();
        hallReader = new HallReader(tape);
        lightReader = new LightReader(tape);
        // One light more than can be held: the next text is always read into the first free one.
        lights = new Light[MOST_LIGHTS + 1];
        for (int k = 0; k < lights.length; k++) {
            lights[k] = new Light();
        }
        letters = new int[Light.LETTERS];
        stack = new int[MOST_BYTES];
        acts = new Acts();
        keptRow = new int[Hall.ROW];
        distances = new Distances(hall);
        sight = new Sight(hall);
        ball = new Ball(hall);
        hanger = new Hanger(hall);
        photos = new Photos(hall);
        lightCount = 0;
        holding = NONE;
        kept = false;
    }

    public int feed(int a, int b, int c, int d, int e) {
        int more = Tape.signsIn(a) + Tape.signsIn(b) + Tape.signsIn(c) + Tape.signsIn(d) + Tape.signsIn(e);
        if (tape.size + more > MOST_BYTES) {
            return NONE;
        }
        tape.add(a);
        tape.add(b);
        tape.add(c);
        tape.add(d);
        tape.add(e);
        return tape.size;
    }

    public boolean end(int n) {
        if (n < 0 || n > tape.size) {
            return false;
        }
        tape.size = n;
        return true;
    }

    public int fault(int sort) {
        if (sort == HALL_SORT) {
            return hallReader.read();
        }
        if (sort == LIGHT_SORT) {
            return lightReader.read(freeLight());
        }
        return NO_SUCH_SORT;
    }

    public int text(int sort) {
        if (sort == HALL_SORT && hallReader.read() == NONE) {
            hall.become(hallReader.found);
            acts.size = 0;
            photos.size = 0;
            kept = false;
            tape.size = 0;
            return hall.bodies;
        }
        if (sort == LIGHT_SORT && lightCount < MOST_LIGHTS && lightReader.read(freeLight()) == NONE) {
            lightCount++;
            tape.size = 0;
            return lightCount - 1;
        }
        return NONE;
    }

    public int body(int body, int what) throws NoSuchElementException {
        if (!hall.has(body) || what < 0 || what > 2) {
            throw new NoSuchElementException("no such body, or nothing of it has this number");
        }
        if (what == 0) {
            return hall.xs[body];
        }
        return what == 1 ? hall.ys[body] : hall.arms[body];
    }

    public boolean light(int light) {
        if (light < NONE || light >= lightCount) {
            return false;
        }
        holding = light;
        return true;
    }

    public int move(int body, int x, int y) {
        if (!hall.has(body) || !hall.isInside(x, y) || hall.xs[body] == x && hall.ys[body] == y) {
            return NONE;
        }
        acts.remember(hall);
        hall.xs[body] = x;
        hall.ys[body] = y;
        return acts.size;
    }

    public int glass(int walls) {
        if (!hall.stands() || walls < 0 || walls > ALL_WALLS || walls == hall.glass) {
            return NONE;
        }
        acts.remember(hall);
        hall.glass = walls;
        return acts.size;
    }

    public int steps(int n, long seed) {
        if (!hall.stands() || n < 1 || n > MOST_STEPS) {
            return NONE;
        }
        long x = seed;
        for (int step = 0; step < n; step++) {
            acts.remember(hall);
            for (int body = 0; body < hall.bodies; body++) {
                x = x * DRAW_TIMES + DRAW_MORE;
                hall.wander(body, (int) ((x >>> 33) % 5));
            }
        }
        return acts.size;
    }

    public int undo() {
        return acts.takeBack(hall) ? acts.size : NONE;
    }

    public int image(int body, int i, int j, int what) {
        if (!hasImage(body, i, j)) {
            return HIDDEN;
        }
        switch (what) {
            case 0:
                return Hall.spot(i, hall.width, hall.xs[body]);
            case 1:
                return Hall.spot(j, hall.height, hall.ys[body]);
            case 2:
                return isTurned(i, j) ? 1 - hall.arms[body] : hall.arms[body];
            case 3:
                return hall.brightAfter(glasses(i, j));
            case 4:
                return Hall.isThere(hall.glass, i, j) ? 1 : 0;
            default:
                return HIDDEN;
        }
    }

    public int far(int body, int i, int j, int eye) {
        return hasImage(body, i, j) && hall.has(eye) ? hall.farFrom(eye, body, i, j) : NONE;
    }

    public int lightOf(int body, int i, int j, int eye) {
        if (!hasImage(body, i, j) || !hall.has(eye)) {
            return HIDDEN;
        }
        return worthOf(i, j, hall.farFrom(eye, body, i, j));
    }

    public int near(int body, int eye, int n, int what) {
        if (!hall.has(body) || !hall.has(eye) || what < 0 || what > 2) {
            return HIDDEN;
        }
        distances.measure(body, eye);
        if (!distances.findNth(n)) {
            return HIDDEN;
        }
        if (what == 0) {
            return distances.foundI;
        }
        return what == 1 ? distances.foundJ : distances.foundFar;
    }

    public int within(int body, int eye, int far) {
        if (!hall.has(body) || !hall.has(eye) || far < 0 || far > 99) {
            return NONE;
        }
        distances.measure(body, eye);
        return distances.upTo(far * far);
    }

    public int brighter(int eye, int least) {
        if (!hall.has(eye)) {
            return NONE;
        }
        int many = 0;
        for (int body = 0; body < hall.bodies; body++) {
            distances.measure(body, eye);
            for (int i = distances.lowI; i <= distances.highI; i++) {
                for (int j = distances.lowJ; j <= distances.highJ; j++) {
                    if (worthOf(i, j, distances.farAt(i, j)) >= least) {
                        many++;
                    }
                }
            }
        }
        return many;
    }

    public int seen(int body, int i, int j, int eye) {
        if (!hasImage(body, i, j) || !hall.has(eye)) {
            return NONE;
        }
        return sight.sees(eye, body, i, j, hall.glass) ? 1 : 0;
    }

    public int view(int body, int eye, int n) {
        if (!hall.has(body) || !hall.has(eye) || n < 0 || n > 6) {
            return NONE;
        }
        return sight.seenImages(eye, body, n, hall.glass);
    }

    public int walls(int eye, int least) {
        if (!hall.has(eye) || least < 0 || least > 25) {
            return NONE;
        }
        for (int many = 0; many <= 4; many++) {
            for (int walls = 0; walls <= ALL_WALLS; walls++) {
                if (Integer.bitCount(walls) == many && sight.seesAll(eye, least, walls)) {
                    return walls;
                }
            }
        }
        return NONE;
    }

    public int hits(int body, int right, int up, int other, int what) {
        if (!hall.has(body) || !hall.has(other) || !isWay(right, up) || what < 0 || what > 2) {
            return HIDDEN;
        }
        if (!ball.findFirst(body, right, up, other)) {
            return HIDDEN;
        }
        if (what == 0) {
            return glasses(ball.firstI, ball.firstJ);
        }
        return what == 1 ? ball.firstI : ball.firstJ;
    }

    public int round(int right, int up) {
        if (!hall.stands() || !isWay(right, up)) {
            return NONE;
        }
        return ball.cushionsRound(Math.abs(right), Math.abs(up));
    }

    public int ways(int body, int other, int n) {
        if (!hall.has(body) || !hall.has(other) || n < 0 || n > MOST_CELL) {
            return NONE;
        }
        return ball.unlikeWays(body, other, n);
    }

    public int hang(int eye, int body, int wall, int part) {
        if (!hall.has(eye) || !hall.has(body) || eye == body || !isWallPart(wall, part)) {
            return NONE;
        }
        if (!hanger.place(eye, body, wall)) {
            return NONE;
        }
        return part == 0 ? hanger.above : hanger.below;
    }

    public int pane(int eye, int wall, int part) {
        if (!hall.has(eye) || !isWallPart(wall, part) || !hanger.span(eye, wall)) {
            return NONE;
        }
        return part == 0 ? hanger.above : hanger.below;
    }

    public int hinge(int a, int p, int what) {
        if (a < 1 || a > 180 || p < 1 || p >= a || what < 0 || what > 1) {
            return NONE;
        }
        return what == 0 ? unlikePlaces(a, p) : turnedPlaces(a, p);
    }

    public int angles(int many, int i) {
        int found = 0;
        for (int a = 1; a <= 180; a++) {
            if (showsSomewhere(a, many)) {
                if (found == i) {
                    return a;
                }
                found++;
            }
        }
        return i == NONE ? found : NONE;
    }

    public int beads(int k, int c) {
        if (k < 1 || k > 12 || c < 1 || c > 4) {
            return NONE;
        }
        int rows = 1;
        // Rows that are themselves when read from behind: their first half tells them.
        int alike = 1;
        for (int bead = 0; bead < k; bead++) {
            rows *= c;
            if (2 * bead < k) {
                alike *= c;
            }
        }
        return (rows + alike) / 2;
    }

    public int photo(int eye, int far) {
        if (!hall.has(eye) || far < 0 || far > MOST_PHOTO_FAR || photos.size >= MOST_PHOTOS) {
            return NONE;
        }
        photos.add(eye, far);
        return photos.size;
    }

    public int fits(int i) {
        if (!hall.stands()) {
            return NONE;
        }
        int found = 0;
        for (int x = 0; x <= hall.width; x++) {
            for (int y = 0; y <= hall.height; y++) {
                if (photos.allShow(x, y)) {
                    if (found == i) {
                        return 100 * x + y;
                    }
                    found++;
                }
            }
        }
        return i == NONE ? found : NONE;
    }

    public int keep() {
        if (!hall.stands()) {
            return NONE;
        }
        hall.writeTo(keptRow, 0);
        kept = true;
        return acts.size;
    }

    public int back() {
        if (!kept) {
            return NONE;
        }
        hall.readFrom(keptRow, 0);
        acts.size = 0;
        return 0;
    }

    public int count(int what) {
        switch (what) {
            case 0:
                return hall.bodies;
            case 1:
                return hall.width;
            case 2:
                return hall.height;
            case 3:
                return hall.glass;
            case 4:
                return hall.takes;
            case 5:
                return lightCount;
            case 6:
                return tape.size;
            case 7:
                return holding;
            case 8:
                return photos.size;
            case 9:
                return acts.size;
            default:
                return HIDDEN;
        }
    }

    private boolean hasImage(int body, int i, int j) {
        return hall.has(body) && i >= -MOST_CELL && i <= MOST_CELL && j >= -MOST_CELL && j <= MOST_CELL;
    }

    private Light freeLight() {
        return lightCount >= 0 && lightCount < lights.length ? lights[lightCount] : null;
    }

    private int worthOf(int i, int j, int far) {
        int glasses = glasses(i, j);
        int bright = hall.brightAfter(glasses);
        Light light = holding >= 0 && holding < lights.length ? lights[holding] : null;
        if (light == null) {
            return bright;
        }
        letters[0] = glasses;
        letters[1] = far;
        letters[2] = glasses & 1;
        letters[3] = i;
        letters[4] = j;
        letters[5] = bright;
        return light.worth(letters, stack);
    }

    private static int glasses(int i, int j) {
        return Math.abs(i) + Math.abs(j);
    }

    private static boolean isTurned(int i, int j) {
        return (glasses(i, j) & 1) == 1;
    }

    private static boolean isWay(int right, int up) {
        return right >= -9 && right <= 9 && up >= -9 && up <= 9 && (right != 0 || up != 0);
    }

    private static boolean isWallPart(int wall, int part) {
        return wall >= 0 && wall <= 3 && part >= 0 && part <= 1;
    }

    // Two glasses at an angle of a. In the row that begins with the glass p off which it stands, a place that was
    // thrown back m times lies before the next glass as long as p and m times a is below 180. So the row ends with
    // the first m that is not so; and only the ends of both rows, behind both glasses, can fall together.

    private static int unlikePlaces(int a, int p) {
        return throwsOf(a, p) + throwsOf(a, a - p) - (endsMeet(a, p) ? 1 : 0);
    }

    private static int turnedPlaces(int a, int p) {
        int second = throwsOf(a, a - p);
        int turned = (throwsOf(a, p) + 1) / 2 + (second + 1) / 2;
        // Where the ends meet the first row tells, so the second one's end does not count.
        return endsMeet(a, p) ? turned - (second & 1) : turned;
    }

    private static boolean showsSomewhere(int a, int many) {
        // A row has (180 - p) / a throws, rounded up: both have 360 / a - 1 at least, less than 360 / a + 1.
        if (a < 1 || many < 360 / a - 2 || many > 360 / a + 1) {
            return false;
        }
        // The other half of the places shows as many, by the other glass.
        for (int p = 1; p < a && 2 * p <= a; p++) {
            if (unlikePlaces(a, p) == many) {
                return true;
            }
        }
        return false;
    }

    private static int throwsOf(int a, int p) {
        return a < 1 ? 0 : (180 - p + a - 1) / a;
    }

    /** Where a row ends, told from the glass that it begins with. */
    private static int endOf(int a, int p) {
        int throwsMade = throwsOf(a, p);
        return (throwsMade & 1) == 1 ? -p - (throwsMade - 1) * a : p + throwsMade * a;
    }

    private static boolean endsMeet(int a, int p) {
        return Math.floorMod(endOf(a, p) - (a - endOf(a, a - p)), 360) == 0;
    }

    /** The greatest common divisor of two numbers that are not negative. */
    private static int divisor(int a, int b) {
        int big = a;
        int small = b;
        for (int k = 0; k < 64 && small != 0; k++) {
            int rest = big % small;
            big = small;
            small = rest;
        }
        return big;
    }

    /** The bytes that came and were not yet made a text, and a place from which a reader goes on. */
    private static final class Tape {
        private final int[] bytes = new int[MOST_BYTES];
        int size;
        // Behind a reader's refusal it stands at the fault.
        int at;

        static int signsIn(int number) {
            int many = 0;
            for (int shift = 24; shift >= 0; shift -= 8) {
                if ((number >>> shift & 255) != 0) {
                    many++;
                }
            }
            return many;
        }

        void add(int number) {
            for (int shift = 24; shift >= 0; shift -= 8) {
                int sign = number >>> shift & 255;
                if (sign != 0 && size < bytes.length) {
                    bytes[size] = sign;
                    size++;
                }
            }
        }

        /** The next sign that is no blank, 0 at the end (no byte of the tape is 0). */
        int look() {
            while (at < size && bytes[at] == ' ') {
                at++;
            }
            return at < size ? bytes[at] : 0;
        }

        boolean take(int sign) {
            if (look() != sign) {
                return false;
            }
            at++;
            return true;
        }

        /** A number right here, NONE without a digit or with more digits than may be. */
        int number(int mostDigits) {
            int value = 0;
            int digits = 0;
            while (at < size && bytes[at] >= '0' && bytes[at] <= '9') {
                if (digits == mostDigits) {
                    return NONE;
                }
                value = 10 * value + bytes[at] - '0';
                digits++;
                at++;
            }
            return digits == 0 ? NONE : value;
        }
    }

    /** The room and those who stand in it; without bodies there is no hall. */
    private static final class Hall {
        static final int ROW = 2 * MOST_BODIES + 1;

        final int[] xs = new int[MOST_BODIES];
        final int[] ys = new int[MOST_BODIES];
        final int[] arms = new int[MOST_BODIES];
        private final int[] brights = new int[MOST_GLASSES + 1];
        int bodies;
        int width;
        int height;
        int glass;
        int takes;

        boolean stands() {
            return bodies > 0;
        }

        boolean has(int body) {
            return body >= 0 && body < bodies;
        }

        boolean isInside(int x, int y) {
            return x >= 0 && x <= width && y >= 0 && y <= height;
        }

        void become(Hall other) {
            bodies = other.bodies;
            width = other.width;
            height = other.height;
            glass = other.glass;
            takes = other.takes;
            for (int body = 0; body < MOST_BODIES; body++) {
                xs[body] = other.xs[body];
                ys[body] = other.ys[body];
                arms[body] = other.arms[body];
            }
            int bright = 1000000;
            for (int glasses = 0; glasses < brights.length; glasses++) {
                brights[glasses] = bright;
                bright = bright * (100 - takes) / 100;
            }
        }

        int brightAfter(int glasses) {
            return glasses >= 0 && glasses < brights.length ? brights[glasses] : 0;
        }

        void wander(int body, int draw) {
            int x = xs[body] + (draw == 1 ? 1 : draw == 3 ? -1 : 0);
            int y = ys[body] + (draw == 2 ? 1 : draw == 4 ? -1 : 0);
            if (isInside(x, y)) {
                xs[body] = x;
                ys[body] = y;
            }
        }

        int farFrom(int eye, int body, int i, int j) {
            int side = spot(i, width, xs[body]) - xs[eye];
            int rise = spot(j, height, ys[body]) - ys[eye];
            return side * side + rise * rise;
        }

        void writeTo(int[] row, int from) {
            if (from < 0 || from + ROW > row.length) {
                return;
            }
            for (int body = 0; body < MOST_BODIES; body++) {
                row[from + 2 * body] = xs[body];
                row[from + 2 * body + 1] = ys[body];
            }
            row[from + ROW - 1] = glass;
        }

        void readFrom(int[] row, int from) {
            if (from < 0 || from + ROW > row.length) {
                return;
            }
            for (int body = 0; body < MOST_BODIES; body++) {
                xs[body] = row[from + 2 * body];
                ys[body] = row[from + 2 * body + 1];
            }
            glass = row[from + ROW - 1];
        }

        /** Where what stands at own is found in a cell: every other cell is turned about. */
        static int spot(int cell, int size, int own) {
            return cell * size + ((cell & 1) == 0 ? own : size - own);
        }

        static int lowI(int walls) {
            return lowCell(walls & 3);
        }

        static int highI(int walls) {
            return highCell(walls & 3);
        }

        static int lowJ(int walls) {
            return lowCell(walls >> 2 & 3);
        }

        static int highJ(int walls) {
            return highCell(walls >> 2 & 3);
        }

        static boolean isThere(int walls, int i, int j) {
            return i >= lowI(walls) && i <= highI(walls) && j >= lowJ(walls) && j <= highJ(walls);
        }

        // Of a pair of walls that face each other 1 is the bit of the lower one, 2 that of the higher one.
        private static int lowCell(int pair) {
            return pair == 3 ? -MOST_CELL : pair == 1 ? -1 : 0;
        }

        private static int highCell(int pair) {
            return pair == 3 ? MOST_CELL : pair == 2 ? 1 : 0;
        }
    }

    /** Reads the tape as a hall. */
    private static final class HallReader {
        private static final String ITEMS = "whgtxya";
        private static final int[] LEAST = {1, 1, 0, 0, 0, 0, 0};
        private static final int[] MOST = {20, 20, 15, 99, 20, 20, 1};
        private static final int[] USUAL = {10, 8, 15, 10, 1, 1, 1};
        private static final int ROOM_ITEMS = 4;

        private final Tape tape;
        private final int[] values = new int[USUAL.length];
        final Hall found = new Hall();
        private boolean roomTold;

        HallReader(Tape tape) {
            this.tape = tape;
        }

        /** The fault, or NONE, and then the hall is in found. */
        int read() {
            tape.at = 0;
            found.bodies = 0;
            found.width = USUAL[0];
            found.height = USUAL[1];
            found.glass = USUAL[2];
            found.takes = USUAL[3];
            roomTold = false;
            for (int clause = 0; clause <= MOST_BODIES + 1; clause++) {
                if (!readClause()) {
                    return tape.at;
                }
                if (tape.look() == 0) {
                    return isWhole() ? NONE : tape.size;
                }
                if (!tape.take(';')) {
                    return tape.at;
                }
            }
            return tape.at;
        }

        private boolean readClause() {
            int sign = tape.look();
            if (sign == 'r' && !roomTold) {
                tape.at++;
                roomTold = true;
                return readRoom();
            }
            if (sign == 'b' && found.bodies < MOST_BODIES) {
                tape.at++;
                return readBody();
            }
            return false;
        }

        private boolean readRoom() {
            if (!readItems(0, ROOM_ITEMS)) {
                return false;
            }
            found.width = values[0];
            found.height = values[1];
            found.glass = values[2];
            found.takes = values[3];
            return true;
        }

        private boolean readBody() {
            if (!readItems(ROOM_ITEMS, USUAL.length)) {
                return false;
            }
            int body = found.bodies;
            found.xs[body] = values[ROOM_ITEMS];
            found.ys[body] = values[ROOM_ITEMS + 1];
            found.arms[body] = values[ROOM_ITEMS + 2];
            found.bodies++;
            return true;
        }

        /** Items from first on, before end; a sign that is none is left to the caller. */
        private boolean readItems(int first, int end) {
            int told = 0;
            for (int item = first; item < end; item++) {
                values[item] = USUAL[item];
            }
            for (int k = 0; k <= end - first; k++) {
                int item = ITEMS.indexOf((char) tape.look());
                if (item < first || item >= end || (told >> item & 1) == 1) {
                    return true;
                }
                told |= 1 << item;
                tape.at++;
                tape.look();
                int value = tape.number(2);
                if (value == NONE) {
                    return false;
                }
                if (value < LEAST[item] || value > MOST[item]) {
                    tape.at--;
                    return false;
                }
                values[item] = value;
            }
            return true;
        }

        /** Asked at the end alone: a room told late may still be wide enough. */
        private boolean isWhole() {
            for (int body = 0; body < found.bodies; body++) {
                if (!found.isInside(found.xs[body], found.ys[body])) {
                    return false;
                }
            }
            return found.stands();
        }
    }

    /** A light's signs, each behind what it joins, so that a stack is enough to find its worth. */
    private static final class Light {
        static final int LETTERS = 6;
        static final int NUMBER = '0';
        static final int LETTER = 'a';
        static final int IF = '?';
        static final int END = ';';
        static final int NOT = '!';

        private final int[] signs = new int[MOST_BYTES];
        private final int[] values = new int[MOST_BYTES];
        int size;

        void add(int sign, int value) {
            if (size < signs.length) {
                signs[size] = sign;
                values[size] = value;
                size++;
            }
        }

        /** From a condition that does not hold one goes on behind its clause, whose last sign is the newest. */
        void leadToEnd(int condition) {
            if (condition >= 0 && condition < size) {
                values[condition] = size - 1;
            }
        }

        int worth(int[] letters, int[] stack) {
            int top = 0;
            for (int k = 0; k < size; k++) {
                int sign = signs[k];
                if (sign == NUMBER || sign == LETTER) {
                    if (top >= stack.length) {
                        return 0;
                    }
                    stack[top] = sign == NUMBER ? values[k] : letterAt(letters, values[k]);
                    top++;
                } else if (top < 1) {
                    return 0;
                } else if (sign == END) {
                    return stack[top - 1];
                } else if (sign == NOT) {
                    stack[top - 1] = 1 - stack[top - 1];
                } else if (sign == IF) {
                    top--;
                    if (stack[top] == 0) {
                        k = Math.max(k, values[k]);
                    }
                } else if (top < 2) {
                    return 0;
                } else {
                    top--;
                    stack[top - 1] = joined(sign, stack[top - 1], stack[top]);
                }
            }
            return 0;
        }

        private static int letterAt(int[] letters, int letter) {
            return letter >= 0 && letter < letters.length ? letters[letter] : 0;
        }

        private static int joined(int sign, int a, int b) {
            switch (sign) {
                case '+':
                    return bounded(a + b);
                case '-':
                    return bounded(a - b);
                case '*':
                    return bounded((long) a * b);
                case '/':
                    return b == 0 ? 0 : a / b;
                case '=':
                    return a == b ? 1 : 0;
                case '<':
                    return a < b ? 1 : 0;
                case '>':
                    return a > b ? 1 : 0;
                case '&':
                    return a & b;
                default:
                    return a | b;
            }
        }

        private static int bounded(long number) {
            return (int) Math.max(-MOST_WORTH, Math.min(MOST_WORTH, number));
        }
    }

    /** Reads the tape as a light. Each of its methods leaves the tape at the fault if it answers false. */
    private static final class LightReader {
        private static final String LETTERS = "nftijb";
        private static final int MOST_DEPTH = 6;

        private final Tape tape;
        private Light light;

        LightReader(Tape tape) {
            this.tape = tape;
            light = new Light();
        }

        /** The fault, or NONE, and then the light holds what was read. */
        int read(Light into) {
            if (into != null) {
                light = into;
            }
            light.size = 0;
            tape.at = 0;
            for (int clause = 0; clause < MOST_BYTES; clause++) {
                if (!readClause()) {
                    return tape.at;
                }
                if (tape.look() == 0) {
                    return NONE;
                }
                if (!tape.take(';')) {
                    return tape.at;
                }
            }
            return tape.at;
        }

        private boolean readClause() {
            if (!tape.take('y') || !tape.take(':')) {
                return false;
            }
            int sign = tape.look();
            boolean sumRead = sign != '!' && sign != '(';
            if (sumRead && !readSum(0)) {
                return false;
            }
            if (sumRead && !isComparison(tape.look())) {
                light.add(Light.END, 0);
                return true;
            }
            if (!readCondition(0, sumRead) || !tape.take('?')) {
                return false;
            }
            int condition = light.size;
            light.add(Light.IF, 0);
            if (!readSum(0)) {
                return false;
            }
            light.add(Light.END, 0);
            light.leadToEnd(condition);
            return true;
        }

        /** An | is put down only when its right side is whole, as & binds closer. */
        private boolean readCondition(int depth, boolean sumRead) {
            if (!readUnit(depth, sumRead)) {
                return false;
            }
            boolean waiting = false;
            for (int k = 0; k < MOST_BYTES; k++) {
                int sign = tape.look();
                if (sign != '&' && sign != '|') {
                    break;
                }
                tape.at++;
                if (sign == '|' && waiting) {
                    light.add('|', 0);
                }
                waiting = waiting || sign == '|';
                if (!readUnit(depth, false)) {
                    return false;
                }
                if (sign == '&') {
                    light.add('&', 0);
                }
            }
            if (waiting) {
                light.add('|', 0);
            }
            return true;
        }

        private boolean readUnit(int depth, boolean sumRead) {
            int sign = tape.look();
            if (!sumRead && (sign == '!' || sign == '(')) {
                if (depth >= MOST_DEPTH) {
                    return false;
                }
                tape.at++;
                if (sign == '(') {
                    return readCondition(depth + 1, false) && tape.take(')');
                }
                if (!readUnit(depth + 1, false)) {
                    return false;
                }
                light.add(Light.NOT, 0);
                return true;
            }
            if (!sumRead && !readSum(depth)) {
                return false;
            }
            int comparison = tape.look();
            if (!isComparison(comparison)) {
                return false;
            }
            tape.at++;
            if (!readSum(depth)) {
                return false;
            }
            light.add(comparison, 0);
            return true;
        }

        /** A + or - is put down only when its right side is whole, as * and / bind closer. */
        private boolean readSum(int depth) {
            if (!readAtom(depth)) {
                return false;
            }
            int waiting = 0;
            for (int k = 0; k < MOST_BYTES; k++) {
                int sign = tape.look();
                boolean joinsTerms = sign == '+' || sign == '-';
                if (!joinsTerms && sign != '*' && sign != '/') {
                    break;
                }
                tape.at++;
                if (joinsTerms) {
                    if (waiting != 0) {
                        light.add(waiting, 0);
                    }
                    waiting = sign;
                }
                if (!readAtom(depth)) {
                    return false;
                }
                if (!joinsTerms) {
                    light.add(sign, 0);
                }
            }
            if (waiting != 0) {
                light.add(waiting, 0);
            }
            return true;
        }

        private boolean readAtom(int depth) {
            int sign = tape.look();
            if (sign == '[') {
                if (depth >= MOST_DEPTH) {
                    return false;
                }
                tape.at++;
                if (!readSum(depth + 1) || tape.look() != ']') {
                    return false;
                }
                tape.at++;
                return true;
            }
            int letter = LETTERS.indexOf((char) sign);
            if (letter >= 0) {
                tape.at++;
                light.add(Light.LETTER, letter);
                return true;
            }
            int number = tape.number(4);
            if (number == NONE) {
                return false;
            }
            light.add(Light.NUMBER, number);
            return true;
        }

        private static boolean isComparison(int sign) {
            return sign == '=' || sign == '<' || sign == '>';
        }
    }

    /** What stood before each of the latest acts, in a ring. */
    private static final class Acts {
        private final int[] rows = new int[MOST_ACTS * Hall.ROW];
        private int next;
        int size;

        void remember(Hall hall) {
            hall.writeTo(rows, next * Hall.ROW);
            next = next + 1 < MOST_ACTS ? next + 1 : 0;
            if (size < MOST_ACTS) {
                size++;
            }
        }

        boolean takeBack(Hall hall) {
            if (size == 0) {
                return false;
            }
            next = next > 0 ? next - 1 : MOST_ACTS - 1;
            size--;
            hall.readFrom(rows, next * Hall.ROW);
            return true;
        }
    }

    /** How far a body's images that are there stand from an eye. */
    private static final class Distances {
        // Above the square of the farthest image's way: twice 220 times 220.
        private static final int ABOVE_ALL = 1 << 17;

        private final Hall hall;
        private final int[] sides = new int[CELLS];
        private final int[] rises = new int[CELLS];
        int lowI;
        int highI;
        int lowJ;
        int highJ;
        int foundI;
        int foundJ;
        int foundFar;

        Distances(Hall hall) {
            this.hall = hall;
        }

        void measure(int body, int eye) {
            lowI = Hall.lowI(hall.glass);
            highI = Hall.highI(hall.glass);
            lowJ = Hall.lowJ(hall.glass);
            highJ = Hall.highJ(hall.glass);
            for (int i = lowI; i <= highI; i++) {
                int side = Hall.spot(i, hall.width, hall.xs[body]) - hall.xs[eye];
                sides[i + MOST_CELL] = side * side;
            }
            for (int j = lowJ; j <= highJ; j++) {
                int rise = Hall.spot(j, hall.height, hall.ys[body]) - hall.ys[eye];
                rises[j + MOST_CELL] = rise * rise;
            }
        }

        int farAt(int i, int j) {
            return sides[i + MOST_CELL] + rises[j + MOST_CELL];
        }

        /** How many images are no farther. */
        int upTo(int most) {
            int many = 0;
            for (int i = lowI; i <= highI; i++) {
                int rest = most - sides[i + MOST_CELL];
                if (rest >= 0) {
                    for (int j = lowJ; j <= highJ; j++) {
                        if (rises[j + MOST_CELL] <= rest) {
                            many++;
                        }
                    }
                }
            }
            return many;
        }

        boolean findNth(int n) {
            if (n < 0 || n >= (highI - lowI + 1) * (highJ - lowJ + 1)) {
                return false;
            }
            foundFar = farOfNth(n);
            int rest = n - upTo(foundFar - 1);
            for (int i = lowI; i <= highI; i++) {
                for (int j = lowJ; j <= highJ; j++) {
                    if (farAt(i, j) == foundFar) {
                        if (rest == 0) {
                            foundI = i;
                            foundJ = j;
                            return true;
                        }
                        rest--;
                    }
                }
            }
            return false;
        }

        /** The least far up to which there are more than n, found by halving, as sorting would cost far more. */
        private int farOfNth(int n) {
            int low = 0;
            int high = ABOVE_ALL;
            for (int k = 0; k < 32 && low < high; k++) {
                int middle = (low + high) / 2;
                if (upTo(middle) > n) {
                    high = middle;
                } else {
                    low = middle + 1;
                }
            }
            return low;
        }
    }

    /** What an eye sees past the others. */
    private static final class Sight {
        private final Hall hall;
        private int eyeX;
        private int eyeY;
        private int wayX;
        private int wayY;
        private int lowI;
        private int highI;
        private int lowJ;
        private int highJ;

        Sight(Hall hall) {
            this.hall = hall;
        }

        boolean seesAll(int eye, int least, int walls) {
            for (int body = 0; body < hall.bodies; body++) {
                if (body != eye && seenImages(eye, body, WALL_GLASSES, walls) < least) {
                    return false;
                }
            }
            return true;
        }

        int seenImages(int eye, int body, int mostGlasses, int walls) {
            int many = 0;
            for (int i = -mostGlasses; i <= mostGlasses; i++) {
                int rest = mostGlasses - Math.abs(i);
                for (int j = -rest; j <= rest; j++) {
                    if (sees(eye, body, i, j, walls)) {
                        many++;
                    }
                }
            }
            return many;
        }

        boolean sees(int eye, int body, int i, int j, int walls) {
            if (!Hall.isThere(walls, i, j)) {
                return false;
            }
            eyeX = hall.xs[eye];
            eyeY = hall.ys[eye];
            wayX = Hall.spot(i, hall.width, hall.xs[body]) - eyeX;
            wayY = Hall.spot(j, hall.height, hall.ys[body]) - eyeY;
            // What is between stands in a cell between, or in one that touches these.
            lowI = Math.max(Hall.lowI(walls), Math.min(i, 0) - 1);
            highI = Math.min(Hall.highI(walls), Math.max(i, 0) + 1);
            lowJ = Math.max(Hall.lowJ(walls), Math.min(j, 0) - 1);
            highJ = Math.min(Hall.highJ(walls), Math.max(j, 0) + 1);
            for (int third = 0; third < hall.bodies; third++) {
                if (third != eye && third != body && blocks(third)) {
                    return false;
                }
            }
            return true;
        }

        private boolean blocks(int third) {
            for (int i = lowI; i <= highI; i++) {
                int side = Hall.spot(i, hall.width, hall.xs[third]) - eyeX;
                boolean meets = wayX == 0 ? side == 0 : isBetween(side, wayX) && side * wayY % wayX == 0;
                if (meets && standsOnWay(third, side)) {
                    return true;
                }
            }
            return false;
        }

        private boolean standsOnWay(int third, int side) {
            for (int j = lowJ; j <= highJ; j++) {
                int rise = Hall.spot(j, hall.height, hall.ys[third]) - eyeY;
                if (wayX == 0 ? isBetween(rise, wayY) : side * wayY == rise * wayX) {
                    return true;
                }
            }
            return false;
        }

        /** Whether one comes past it on the way from 0 to the end, at neither of them. */
        private static boolean isBetween(int it, int end) {
            return end > 0 ? it > 0 && it < end : it < 0 && it > end;
        }
    }

    /** A ball that all four walls throw back: it goes straight on through images of the room. */
    private static final class Ball {
        private static final int SPREAD = 1000;

        private final Hall hall;
        private final int[] places = new int[4 * MOST_CELL];
        int firstI;
        int firstJ;

        Ball(Hall hall) {
            this.hall = hall;
        }

        boolean findFirst(int body, int right, int up, int other) {
            int nearest = 0;
            int fewest = 0;
            for (int i = -MOST_CELL; i <= MOST_CELL; i++) {
                int side = Hall.spot(i, hall.width, hall.xs[other]) - hall.xs[body];
                for (int j = -MOST_CELL; j <= MOST_CELL; j++) {
                    int rise = Hall.spot(j, hall.height, hall.ys[other]) - hall.ys[body];
                    int along = side * right + rise * up;
                    if (side * up != rise * right || along <= 0) {
                        continue;
                    }
                    boolean first = nearest == 0 || along < nearest;
                    if (first || along == nearest && glasses(i, j) < fewest) {
                        nearest = along;
                        fewest = glasses(i, j);
                        firstI = i;
                        firstJ = j;
                    }
                }
            }
            return nearest > 0;
        }

        /** It is as at first when it came a whole number of double rooms to the side and of double rooms up. */
        int cushionsRound(int right, int up) {
            int sideways = hall.height * right;
            int upwards = hall.width * up;
            int common = divisor(sideways, upwards);
            return common == 0 ? NONE : 2 * (sideways / common + upwards / common);
        }

        int unlikeWays(int body, int other, int n) {
            int many = 0;
            int start = placeNumber(hall.xs[body], hall.ys[body]);
            for (int i = -n; i <= n; i++) {
                int x = Hall.spot(i, hall.width, hall.xs[other]);
                int rest = n - Math.abs(i);
                // With no rest up and down are the same cell; as it is one place, it is put down once.
                for (int turn = -1; turn <= 1; turn += 2) {
                    int place = placeNumber(x, Hall.spot(turn * rest, hall.height, hall.ys[other]));
                    if (place != start && many < places.length && isNew(place, many)) {
                        places[many] = place;
                        many++;
                    }
                }
            }
            return many;
        }

        private boolean isNew(int place, int many) {
            for (int k = 0; k < many && k < places.length; k++) {
                if (places[k] == place) {
                    return false;
                }
            }
            return true;
        }

        private static int placeNumber(int x, int y) {
            return x * SPREAD + y;
        }
    }

    /** Where to hang a glass, and how long it is: a fraction, above and below. */
    private static final class Hanger {
        private final Hall hall;
        int above;
        int below;

        Hanger(Hall hall) {
            this.hall = hall;
        }

        /** False: both stand on the wall. */
        boolean place(int eye, int body, int wall) {
            int eyeOff = offWall(eye, wall);
            int bodyOff = offWall(body, wall);
            return become(alongWall(eye, wall) * bodyOff + alongWall(body, wall) * eyeOff, eyeOff + bodyOff);
        }

        /** False: no other body is seen in this wall. */
        boolean span(int eye, int wall) {
            int leastAbove = 0;
            int leastBelow = 0;
            int mostAbove = 0;
            int mostBelow = 0;
            for (int body = 0; body < hall.bodies; body++) {
                if (body != eye && place(eye, body, wall)) {
                    if (leastBelow == 0 || above * leastBelow < leastAbove * below) {
                        leastAbove = above;
                        leastBelow = below;
                    }
                    if (mostBelow == 0 || above * mostBelow > mostAbove * below) {
                        mostAbove = above;
                        mostBelow = below;
                    }
                }
            }
            return become(mostAbove * leastBelow - leastAbove * mostBelow, mostBelow * leastBelow);
        }

        private boolean become(int newAbove, int newBelow) {
            int common = divisor(newAbove, newBelow);
            if (newBelow <= 0 || common <= 0) {
                return false;
            }
            above = newAbove / common;
            below = newBelow / common;
            return true;
        }

        private int offWall(int body, int wall) {
            switch (wall) {
                case 0:
                    return hall.xs[body];
                case 1:
                    return hall.width - hall.xs[body];
                case 2:
                    return hall.ys[body];
                default:
                    return hall.height - hall.ys[body];
            }
        }

        private int alongWall(int body, int wall) {
            return wall <= 1 ? hall.ys[body] : hall.xs[body];
        }
    }

    /** Who was photographed from where is looked up when the places are asked for, as bodies move and glass changes. */
    private static final class Photos {
        private static final int MOST_PHOTO_CELL = 2;

        private final Hall hall;
        private final int[] eyes = new int[MOST_PHOTOS];
        private final int[] fars = new int[MOST_PHOTOS];
        int size;

        Photos(Hall hall) {
            this.hall = hall;
        }

        void add(int eye, int far) {
            if (size < MOST_PHOTOS) {
                eyes[size] = eye;
                fars[size] = far;
                size++;
            }
        }

        boolean allShow(int x, int y) {
            for (int k = 0; k < size && k < MOST_PHOTOS; k++) {
                if (!shows(eyes[k], fars[k], x, y)) {
                    return false;
                }
            }
            return true;
        }

        private boolean shows(int eye, int far, int x, int y) {
            if (!hall.has(eye)) {
                return false;
            }
            int highI = Math.min(MOST_PHOTO_CELL, Hall.highI(hall.glass));
            for (int i = Math.max(-MOST_PHOTO_CELL, Hall.lowI(hall.glass)); i <= highI; i++) {
                int side = Hall.spot(i, hall.width, x) - hall.xs[eye];
                if (side * side <= far && showsUp(eye, far - side * side, y)) {
                    return true;
                }
            }
            return false;
        }

        private boolean showsUp(int eye, int rest, int y) {
            int highJ = Math.min(MOST_PHOTO_CELL, Hall.highJ(hall.glass));
            for (int j = Math.max(-MOST_PHOTO_CELL, Hall.lowJ(hall.glass)); j <= highJ; j++) {
                int rise = Hall.spot(j, hall.height, y) - hall.ys[eye];
                if (rise * rise == rest) {
                    return true;
                }
            }
            return false;
        }
    }
}
