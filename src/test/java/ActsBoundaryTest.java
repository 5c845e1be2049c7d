/** The boundaries of ACTS, of the IMAGE that is kept, and of count (promises 1, 8 to 11, 31 to 33), sentence by sentence. */
public final class ActsBoundaryTest {
    private static final int NONE = GlassRoom.NONE;
    private static final int HIDDEN = GlassRoom.HIDDEN;
    private static final int[] NO_SUCH = {-1, 2, Check.LOW, Check.HIGH};
    /** Width 4, height 3; 0 at 1, 1; 1 at 3, 2. */
    private static final String PAIR = "rw4h3;b;bx3y2a0";

    private ActsBoundaryTest() {
    }

    public static void main(String[] args) {
        noHall();
        moves();
        moveWhereItStands();
        glass();
        stepsFrom1To40();
        draws();
        wallsStopSteps();
        bodiesByNumbers();
        eachStepIsAnAct();
        fortyActs();
        undoneInTurn();
        allSixAsBefore();
        keep();
        back();
        imageOfThisHall();
        counts();
        constants();
        calls512();
        Check.finish("ActsBoundaryTest");
    }

    private static void due(String what, long got, long want) {
        Check.due(what, got, want);
    }

    private static void standsAt(GlassRoom room, int body, int x, int y) {
        due("x of " + body, room.body(body, 0), x);
        due("y of " + body, room.body(body, 1), y);
    }

    private static void noHall() {
        Check.by("`GlassRoom()`: No HALL.");
        GlassRoom room = new GlassRoom();
        int[] counts = {0, 0, 0, 0, 0, 0, 0, NONE, 0, 0};
        for (int what = 0; what < counts.length; what++) {
            due("count " + what, room.count(what), counts[what]);
        }
        Check.by("NONE: no such one, outside, it stands there.");
        due("move", room.move(0, 0, 0), NONE);
        Check.by("NONE: no HALL, out of bounds, it is so.");
        due("glass 0, which it is not", room.glass(0), NONE);
        due("glass 15", room.glass(15), NONE);
        Check.by("STEPS: how many ACTS can be UNDONE. NONE: no HALL, out of bounds.");
        due("steps", room.steps(1, 1), NONE);
        Check.by("The latest ACT is UNDONE: how many still can be. NONE: none.");
        due("undo", room.undo(), NONE);
        Check.by("An IMAGE (instead of the one ahead): how many ACTS can be UNDONE. NONE: no HALL.");
        due("keep", room.keep(), NONE);
        Check.by("BACK: 0. NONE: no IMAGE of this HALL.");
        due("back", room.back(), NONE);
        for (int what = 0; what < counts.length; what++) {
            due("count still " + what, room.count(what), counts[what]);
        }
    }

    private static void moves() {
        Check.by("A BODY moves: how many ACTS can be UNDONE. NONE: no such one, outside, it stands there.");
        GlassRoom room = Check.room(PAIR);
        int[][] outside = {{-1, 1}, {5, 1}, {1, -1}, {1, 4}, {-1, -1}, {5, 4}, {-1, 4}, {5, -1}, {Check.LOW, 1}, {Check.HIGH, 1},
            {1, Check.LOW}, {1, Check.HIGH}};
        for (int[] o : outside) {
            due("move to " + o[0] + " " + o[1], room.move(0, o[0], o[1]), NONE);
            standsAt(room, 0, 1, 1);
        }
        for (int no : NO_SUCH) {
            due("body " + no, room.move(no, 0, 0), NONE);
        }
        due("no act", room.count(9), 0);
        int[][] corners = {{0, 0}, {4, 0}, {4, 3}, {0, 3}};
        for (int k = 0; k < 4; k++) {
            due("to a corner", room.move(0, corners[k][0], corners[k][1]), k + 1);
            standsAt(room, 0, corners[k][0], corners[k][1]);
            standsAt(room, 1, 3, 2);
        }
        GlassRoom wide = Check.room("rw20h20;b");
        due("20, 20", wide.move(0, 20, 20), 1);
        due("21, 20", wide.move(0, 21, 20), NONE);
        due("20, 21", wide.move(0, 20, 21), NONE);
    }

    private static void moveWhereItStands() {
        Check.by("it stands there");
        GlassRoom room = Check.room(PAIR);
        due("where it stands", room.move(0, 1, 1), NONE);
        due("no act", room.count(9), 0);
        due("the same x", room.move(0, 1, 2), 1);
        due("the same y", room.move(0, 2, 2), 2);
        due("where it stood", room.move(0, 1, 1), 3);
        due("where the other one stands", room.move(0, 3, 2), 4);
        due("where both stand", room.move(1, 3, 2), NONE);
        due("acts", room.count(9), 4);
    }

    private static void glass() {
        Check.by("GLASS is changed (0 .. 15): how many ACTS can be UNDONE. NONE: no HALL, out of bounds, it is so.");
        for (int walls = 0; walls <= 15; walls++) {
            GlassRoom room = Check.room("rg" + walls + ";b");
            for (int beyond : new int[] {-1, 16, 17, 31, Check.LOW, Check.HIGH, walls}) {
                due("glass " + beyond, room.glass(beyond), NONE);
                due("it stays", room.count(3), walls);
                due("no act", room.count(9), 0);
            }
            int other = 15 - walls;
            due("glass " + other, room.glass(other), 1);
            due("it is so", room.count(3), other);
            due("again", room.glass(other), NONE);
            due("as before", room.glass(walls), 2);
        }
    }

    private static void stepsFrom1To40() {
        Check.by("STEPS (1 .. 40) by a seed");
        GlassRoom room = Check.room("rw20h20;bx10y10");
        for (int n : new int[] {0, -1, 41, 42, Check.LOW, Check.HIGH}) {
            due("steps " + n, room.steps(n, 1), NONE);
            standsAt(room, 0, 10, 10);
            due("no act", room.count(9), 0);
        }
        due("one step", room.steps(1, 1), 1);
        standsAt(room, 0, 10, 9);
        due("undone", room.undo(), 0);
        due("forty steps", room.steps(40, 1), 40);
        standsAt(room, 0, 9, 12);
    }

    private static void draws() {
        Check.by("goes by a draw of 5 (0: not; 1 right, 2 up, 3 left, 4 down; outside: not)");
        long[] seeds = {2, 4, 0, 7, 1, -5, -4, -2, -1, -7};
        int[][] to = {{10, 10}, {11, 10}, {10, 11}, {9, 10}, {10, 9}};
        for (int k = 0; k < seeds.length; k++) {
            GlassRoom room = Check.room("rw20h20;bx10y10");
            due("one step", room.steps(1, seeds[k]), 1);
            standsAt(room, 0, to[k % 5][0], to[k % 5][1]);
        }
        Check.by("x, at first the seed, becomes x times 6364136223846793005 and 1442695040888963407 (64 bits, going round); "
                + "a draw of k: (x shifted right by 33, without sign) modulo k.");
        // Reckoned apart from any Java.
        long[] longSeeds = {0, 1, -1, Long.MIN_VALUE, Long.MAX_VALUE, 5};
        int[][] ends = {{10, 6}, {9, 12}, {9, 20}, {9, 9}, {12, 3}, {7, 2}};
        for (int k = 0; k < longSeeds.length; k++) {
            GlassRoom room = Check.room("rw20h20;bx10y10");
            due("forty steps", room.steps(40, longSeeds[k]), 40);
            standsAt(room, 0, ends[k][0], ends[k][1]);
        }
    }

    private static void wallsStopSteps() {
        Check.by("outside: not");
        // In a room of 1, 1 from 0, 0; by 2 4 2 1 0 1 4 0 4 4 3 2 and by 3 3 2 2 4 2 0 2 0 2 3 2.
        int[][] bySeed0 = {{0, 1}, {0, 0}, {0, 1}, {1, 1}, {1, 1}, {1, 1}, {1, 0}, {1, 0}, {1, 0}, {1, 0}, {0, 0}, {0, 1}};
        int[][] byLess1 = {{0, 0}, {0, 0}, {0, 1}, {0, 1}, {0, 0}, {0, 1}, {0, 1}, {0, 1}, {0, 1}, {0, 1}, {0, 1}, {0, 1}};
        for (int n = 1; n <= 12; n++) {
            GlassRoom zero = Check.room("rw1h1;bx0y0");
            zero.steps(n, 0);
            standsAt(zero, 0, bySeed0[n - 1][0], bySeed0[n - 1][1]);
            GlassRoom less = Check.room("rw1h1;bx0y0");
            less.steps(n, -1);
            standsAt(less, 0, byLess1[n - 1][0], byLess1[n - 1][1]);
        }
        long[] seeds = {4, 0, 7, 1};
        String[] walls = {"bx10y4", "bx5y8", "bx0y4", "bx5y0"};
        for (int k = 0; k < 4; k++) {
            GlassRoom room = Check.room(walls[k]);
            int x = room.body(0, 0);
            int y = room.body(0, 1);
            due("a step against a wall is an act", room.steps(1, seeds[k]), 1);
            standsAt(room, 0, x, y);
        }
    }

    private static void bodiesByNumbers() {
        Check.by("in each every BODY by numbers");
        // Two bodies by 4 3, 1 0, 4 0; and by 1 3, 3 0, 4 2.
        int[][] bySeed1 = {{1, 0, 2, 2}, {2, 0, 2, 2}, {2, 0, 2, 2}};
        int[][] byLowest = {{2, 1, 2, 2}, {1, 1, 2, 2}, {1, 0, 2, 3}};
        for (int n = 1; n <= 3; n++) {
            GlassRoom one = Check.room(PAIR);
            one.steps(n, 1);
            standsAt(one, 0, bySeed1[n - 1][0], bySeed1[n - 1][1]);
            standsAt(one, 1, bySeed1[n - 1][2], bySeed1[n - 1][3]);
            GlassRoom lowest = Check.room(PAIR);
            lowest.steps(n, Long.MIN_VALUE);
            standsAt(lowest, 0, byLowest[n - 1][0], byLowest[n - 1][1]);
            standsAt(lowest, 1, byLowest[n - 1][2], byLowest[n - 1][3]);
        }
    }

    private static void eachStepIsAnAct() {
        Check.by("By hand BODIES move, GLASS is changed; STEPS (1 .. 40) by a seed");
        GlassRoom hand = Check.room(PAIR);
        due("a move alone", hand.move(1, 4, 3), 1);
        due("glass stays", hand.count(3), 15);
        due("glass alone", hand.glass(2), 2);
        standsAt(hand, 1, 4, 3);
        Check.by("All of these are ACTS (each STEP one)");
        GlassRoom room = Check.room(PAIR);
        due("a move", room.move(0, 2, 2), 1);
        due("the glass", room.glass(3), 2);
        due("three steps", room.steps(3, 77), 5);
        due("a step", room.steps(1, 2), 6);
        due("a move", room.move(1, 0, 0), 7);
        due("acts", room.count(9), 7);
        room.light(NONE);
        room.photo(0, 1);
        room.keep();
        due("nothing else is one", room.count(9), 7);
        GlassRoom still = Check.room("rw20h20;bx10y10");
        due("a step by which nobody goes", still.steps(1, 2), 1);
        standsAt(still, 0, 10, 10);
        due("can be undone", still.undo(), 0);
    }

    private static void fortyActs() {
        Check.by("the latest (40) can be UNDONE");
        GlassRoom room = Check.room("rw20h20;bx0y0");
        for (int k = 1; k <= 41; k++) {
            due("move " + k, room.move(0, k % 21, k / 21), Math.min(k, 40));
        }
        for (int k = 40; k >= 1; k--) {
            due("undo to " + k, room.undo(), k - 1);
            standsAt(room, 0, k % 21, k / 21);
        }
        due("the first of 41 stands", room.undo(), NONE);
        standsAt(room, 0, 1, 0);
        GlassRoom forty = Check.room("rw20h20;bx0y0");
        for (int k = 1; k <= 40; k++) {
            due("move " + k, forty.move(0, k % 21, k / 21), k);
        }
        for (int k = 39; k >= 0; k--) {
            due("undo to " + k, forty.undo(), k);
        }
        standsAt(forty, 0, 0, 0);
        GlassRoom steps = Check.room("rw20h20;bx10y10");
        due("a glass ahead of forty steps", steps.glass(0), 1);
        due("thirty-nine steps", steps.steps(39, 0), 40);
        for (int k = 39; k >= 0; k--) {
            due("undo to " + k, steps.undo(), k);
        }
        due("the glass is undone", steps.count(3), 15);
        steps.glass(0);
        due("forty steps", steps.steps(40, 0), 40);
        due("forty more", steps.steps(40, 1), 40);
        for (int k = 39; k >= 0; k--) {
            steps.undo();
        }
        standsAt(steps, 0, 10, 6);
        due("no more", steps.undo(), NONE);
        due("the glass is forgotten", steps.count(3), 0);
    }

    private static void allSixAsBefore() {
        Check.by("The latest ACT is UNDONE: how many still can be. NONE: none.");
        int[][] places = {{1, 2}, {3, 4}, {5, 6}, {7, 8}, {9, 10}, {11, 12}};
        GlassRoom room = Check.room("rw20h20g5;bx1y2;bx3y4;bx5y6;bx7y8;bx9y10;bx11y12");
        room.keep();
        due("forty steps", room.steps(40, 8), 40);
        for (int k = 0; k < 40; k++) {
            room.undo();
        }
        for (int body = 0; body < 6; body++) {
            standsAt(room, body, places[body][0], places[body][1]);
        }
        due("glass", room.count(3), 5);
        Check.by("An IMAGE keeps places, GLASS; BACK: they are so again");
        for (int body = 0; body < 6; body++) {
            due("moved", room.move(body, 20, body), body + 1);
        }
        room.glass(10);
        due("back", room.back(), 0);
        for (int body = 0; body < 6; body++) {
            standsAt(room, body, places[body][0], places[body][1]);
        }
        due("glass", room.count(3), 5);
    }

    private static void undoneInTurn() {
        Check.by("The latest ACT is UNDONE: how many still can be. NONE: none.");
        GlassRoom room = Check.room(PAIR);
        due("none", room.undo(), NONE);
        room.move(0, 2, 2);
        room.glass(6);
        room.move(1, 0, 0);
        due("the other one's move", room.undo(), 2);
        standsAt(room, 1, 3, 2);
        standsAt(room, 0, 2, 2);
        due("glass still", room.count(3), 6);
        due("the glass", room.undo(), 1);
        due("glass as before", room.count(3), 15);
        standsAt(room, 0, 2, 2);
        due("an act instead", room.glass(0), 2);
        due("is undone", room.undo(), 1);
        due("and the first", room.undo(), 0);
        standsAt(room, 0, 1, 1);
        due("none is left", room.undo(), NONE);
        due("none", room.count(9), 0);
        standsAt(room, 0, 1, 1);
        due("photos stay", room.photo(0, 3), 1);
        room.move(0, 0, 0);
        room.undo();
        due("photos are no acts", room.count(8), 1);
    }

    private static void keep() {
        Check.by("An IMAGE (instead of the one ahead): how many ACTS can be UNDONE. NONE: no HALL.");
        GlassRoom room = Check.room(PAIR);
        due("without acts", room.keep(), 0);
        room.move(0, 2, 2);
        due("with one", room.keep(), 1);
        room.steps(40, 9);
        due("with forty", room.keep(), 40);
        due("acts stay", room.count(9), 40);
        GlassRoom instead = Check.room(PAIR);
        instead.keep();
        instead.move(0, 4, 3);
        instead.keep();
        instead.move(0, 0, 0);
        due("back", instead.back(), 0);
        standsAt(instead, 0, 4, 3);
    }

    private static void back() {
        Check.by("An IMAGE keeps places, GLASS; BACK: they are so again (no ACT can be UNDONE then).");
        GlassRoom room = Check.room(PAIR);
        room.move(0, 2, 2);
        room.glass(5);
        room.keep();
        due("the acts ahead of it can be undone still", room.undo(), 1);
        room.move(0, 0, 0);
        room.move(1, 0, 0);
        room.glass(0);
        Check.addLight(room, "y:7");
        room.light(0);
        room.photo(0, 9);
        due("back", room.back(), 0);
        standsAt(room, 0, 2, 2);
        standsAt(room, 1, 3, 2);
        due("glass", room.count(3), 5);
        due("no act", room.count(9), 0);
        due("none can be undone", room.undo(), NONE);
        standsAt(room, 0, 2, 2);
        due("photos stay", room.count(8), 1);
        due("lights stay", room.count(5), 1);
        due("which holds stays", room.count(7), 0);
        due("arms stay", room.body(1, 2), 0);
        due("back once more", room.back(), 0);
        due("an act", room.glass(1), 1);
        due("back to the same", room.back(), 0);
        due("glass", room.count(3), 5);
        due("forty acts behind it", room.steps(40, 3), 40);
        due("back from there", room.back(), 0);
        standsAt(room, 0, 2, 2);
        due("none can be undone", room.undo(), NONE);
    }

    private static void imageOfThisHall() {
        Check.by("BACK: 0. NONE: no IMAGE of this HALL.");
        GlassRoom room = Check.room(PAIR);
        due("none at first", room.back(), NONE);
        room.move(0, 2, 2);
        due("none still", room.back(), NONE);
        due("the act stays", room.count(9), 1);
        standsAt(room, 0, 2, 2);
        room.keep();
        Check.feed(room, "b;");
        due("a text that is refused", room.text(0), NONE);
        due("the image is of this hall still", room.back(), 0);
        room.end(0);
        Check.feed(room, PAIR);
        due("another hall, told alike", room.text(0), 2);
        due("no image of it", room.back(), NONE);
        standsAt(room, 0, 1, 1);
    }

    private static void counts() {
        Check.by("0 BODIES, 1 WIDTH, 2 HEIGHT, 3 GLASS, 4 how many of 100 one TAKES, 5 LIGHTS, 6 bytes of the TAPE, "
                + "7 the LIGHT that holds (NONE), 8 PHOTOS, 9 ACTS that can be UNDONE (1 .. 4: 0 without a HALL). HIDDEN for others.");
        GlassRoom room = new GlassRoom();
        Check.addLight(room, "y:1");
        room.light(0);
        Check.feed(room, "rw20h19");
        int[] without = {0, 0, 0, 0, 0, 1, 7, 0, 0, 0};
        countsAre(room, without);
        Check.feed(room, "g9t99;b;b;b;b;b;b");
        countsAre(room, new int[] {0, 0, 0, 0, 0, 1, 24, 0, 0, 0});
        room.text(0);
        countsAre(room, new int[] {6, 20, 19, 9, 99, 1, 0, 0, 0, 0});
        room.photo(5, 5);
        room.glass(8);
        room.steps(2, 2);
        room.light(NONE);
        countsAre(room, new int[] {6, 20, 19, 8, 99, 1, 0, NONE, 1, 3});
    }

    private static void countsAre(GlassRoom room, int[] all) {
        for (int what = 0; what < all.length; what++) {
            due("count " + what, room.count(what), all[what]);
        }
        for (int what : new int[] {-1, 10, 11, Check.LOW, Check.HIGH}) {
            due("count " + what, room.count(what), HIDDEN);
        }
    }

    private static void constants() {
        Check.by("The constants: `NONE = -1`: None; refused.");
        due("NONE", GlassRoom.NONE, -1);
        Check.by("`HIDDEN = -100000000`: Not told.");
        due("HIDDEN", GlassRoom.HIDDEN, -100000000);
    }

    private static void calls512() {
        Check.by("An object is used for at most 512 calls after it has been made");
        GlassRoom room = new GlassRoom();
        room.feed(0x72773230, 0x6832303b, 0x62783079, 0x30000000, 0);
        due("call 2", room.text(0), 1);
        for (int call = 3; call <= 511; call++) {
            int k = call - 2;
            due("call " + call, room.move(0, k % 21, k / 21 % 21), Math.min(k, 40));
        }
        due("call 512: undone, behind 509 moves", room.undo(), 39);
        GlassRoom steps = Check.room("rw20h20;bx10y10;b;b;b;b;b");
        for (int call = 4; call <= 511; call++) {
            due("call " + call, steps.steps(40, call), 40);
        }
        due("call 512: undone, behind 20320 steps", steps.undo(), 39);
    }
}
