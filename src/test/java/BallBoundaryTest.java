/** The boundaries of balls, hung glasses, hinges, beads and photographs (promises 21 to 30), sentence by sentence. */
public final class BallBoundaryTest {
    private static final int NONE = GlassRoom.NONE;
    private static final int HIDDEN = GlassRoom.HIDDEN;
    private static final int[] NO_SUCH = {-1, 2, Check.LOW, Check.HIGH};
    /** Width 4, height 3; 0 at 1, 1; 1 at 3, 2. */
    private static final String PAIR = "rw4h3;b;bx3y2a0";

    private BallBoundaryTest() {
    }

    public static void main(String[] args) {
        directions();
        firstHit();
        lastCells();
        whereItBegins();
        refusedHits();
        round();
        ways();
        hang();
        hangOnTheWall();
        pane();
        hinge();
        refusedHinges();
        angles();
        beads();
        photos();
        fitsEverywhere();
        fitsByCells();
        fitsAsAsked();
        Check.finish("BallBoundaryTest");
    }

    private static void due(String what, long got, long want) {
        Check.due(what, got, want);
    }

    private static void hitIs(GlassRoom room, int[] r) {
        String told = "hits " + r[0] + " " + r[1] + " " + r[2] + " " + r[3] + " ";
        for (int what = 0; what < 3; what++) {
            due(told + what, room.hits(r[0], r[1], r[2], r[3], what), r[4 + what]);
        }
    }

    private static void directions() {
        Check.by("A BALL goes from a BODY, so much to the right and up (-9 .. 9 each, not both 0), thrown back by all four walls.");
        GlassRoom room = Check.room(PAIR);
        int[][] rows = {{0, 9, 0, 0, 1, 1, 0}, {0, -9, 0, 0, 1, -1, 0}, {0, 0, 9, 0, 1, 0, 1}, {0, 0, -9, 0, 1, 0, -1},
            {0, 9, 6, 0, 2, 1, 1}, {0, -9, -9, 0, 2, -1, -1}};
        for (int[] r : rows) {
            hitIs(room, r);
        }
        int[][] beyond = {{10, 0}, {-10, 0}, {0, 10}, {0, -10}, {10, 10}, {-10, -10}, {9, 10}, {10, 9}, {-10, 9}, {9, -10}, {0, 0},
            {Check.LOW, 0}, {0, Check.LOW}, {Check.HIGH, 0}, {0, Check.HIGH}, {Check.LOW, Check.LOW}};
        for (int[] b : beyond) {
            for (int what = 0; what < 3; what++) {
                due("hits by " + b[0] + " " + b[1], room.hits(0, b[0], b[1], 0, what), HIDDEN);
            }
            due("round by " + b[0] + " " + b[1], room.round(b[0], b[1]), NONE);
        }
        for (int right = -9; right <= 9; right += 9) {
            for (int up = -9; up <= 9; up += 9) {
                Check.due("round by " + right + " " + up, room.round(right, up) != NONE, right != 0 || up != 0);
            }
        }
    }

    private static void firstHit() {
        Check.by("HITS: the first IMAGE of another BODY, or of that itself (all i, j as if all walls were GLASS), "
                + "that lies straight on its way");
        for (int glass = 0; glass <= 15; glass += 5) {
            GlassRoom room = Check.room("rw4h3g" + glass + ";b;bx3y2a0;bx3y1");
            int[][] rows = {{0, 2, 1, 1, 0, 0, 0}, {0, 4, 2, 1, 0, 0, 0}, {1, -2, -1, 0, 0, 0, 0}, {0, 1, 0, 2, 0, 0, 0},
                {0, -1, 0, 2, 1, -1, 0}, {2, 1, 0, 0, 1, 1, 0}, {0, 0, 1, 0, 1, 0, 1}};
            for (int[] r : rows) {
                hitIs(room, r);
            }
        }
        Check.by("(of several at one place that with the fewest GLASSES, then by i, j): by how many cushions (its GLASSES), i, j.");
        GlassRoom wall = Check.room("rw4h3;bx2y1;bx0y1;bx4y1;bx0y0;bx4y3");
        int[][] rows = {{0, -1, 0, 1, 0, 0, 0}, {0, 1, 0, 1, 1, 1, 0}, {0, 1, 0, 2, 0, 0, 0}, {0, -1, 0, 2, 1, -1, 0},
            {0, -2, -1, 3, 0, 0, 0}, {0, 1, 1, 4, 0, 0, 0}, {3, 4, 3, 4, 0, 0, 0}, {4, -4, -3, 3, 0, 0, 0}, {3, 4, 3, 3, 2, 1, 1}};
        for (int[] r : rows) {
            hitIs(wall, r);
        }
    }

    private static void lastCells() {
        Check.by("(all i, j as if all walls were GLASS)");
        GlassRoom room = Check.room("rw4h3;b;bx0y1");
        int[][] rows = {{0, 1, 5, 0, 11, 1, 10}, {0, 1, -5, 0, 11, 1, -10}, {0, -3, 5, 0, 15, -5, 10}, {0, 1, 2, 1, 13, 3, 10}};
        for (int[] r : rows) {
            hitIs(room, r);
        }
        GlassRoom wide = Check.room("rw5h4;b;bx2y1;bx0y1");
        int[][] wides = {{0, -7, 2, 1, 13, -10, 3}, {0, -3, -2, 2, 19, -10, -9}};
        for (int[] r : wides) {
            hitIs(wide, r);
        }
        GlassRoom high = Check.room("rw7h5;b;bx3y2");
        int[][] highs = {{0, 5, -3, 0, 19, 10, -9}, {0, 5, 2, 0, 15, 10, 5}, {0, 8, 3, 1, 15, 10, 5}, {0, -8, 6, 1, 20, -10, 10}};
        for (int[] r : highs) {
            hitIs(high, r);
        }
        Check.by("HIDDEN: it hits none, no such ones, out of bounds.");
        due("the first would be at i -11", room.hits(0, -7, 1, 0, 0), HIDDEN);
        due("the first would be at i 11", Check.room("rw4h3;b;bx2y1").hits(0, 9, 2, 1, 0), HIDDEN);
        due("the first would be at j -11", wide.hits(0, 2, -3, 0, 0), HIDDEN);
        due("the first would be at j 11", Check.room("rw5h4;b;bx3y2").hits(0, 4, 5, 1, 0), HIDDEN);
        due("none ever", room.hits(0, 0, 1, 1, 0), HIDDEN);
        due("none ever", Check.room(PAIR).hits(0, 1, 0, 1, 1), HIDDEN);
    }

    private static void whereItBegins() {
        Check.by("not where it begins");
        GlassRoom room = Check.room("rw4h3;b;b;bx0y1;bx0y0");
        int[][] rows = {{0, 1, 0, 0, 1, 1, 0}, {0, 1, 0, 1, 1, 1, 0}, {1, -1, 0, 0, 1, -1, 0}, {0, 0, 1, 1, 1, 0, 1},
            {0, -1, 0, 2, 0, 0, 0}, {2, 1, 0, 0, 0, 0, 0}, {2, 0, -1, 3, 0, 0, 0}, {2, 1, 0, 2, 1, 1, 0}, {2, -1, 0, 2, 2, -2, 0}, {3, 0, -1, 3, 2, 0, -2}, {3, 1, 0, 3, 1, 1, 0}, {3, 0, 1, 3, 1, 0, 1}};
        for (int[] r : rows) {
            hitIs(room, r);
        }
    }

    private static void refusedHits() {
        Check.by("HITS: cushions (0), i (1), j (2). HIDDEN: it hits none, no such ones, out of bounds.");
        GlassRoom room = Check.room(PAIR);
        for (int no : NO_SUCH) {
            due("body " + no, room.hits(no, 1, 0, 0, 0), HIDDEN);
            due("other " + no, room.hits(0, 1, 0, no, 0), HIDDEN);
        }
        for (int what : new int[] {-1, 3, Check.LOW, Check.HIGH}) {
            due("what " + what, room.hits(0, 1, 0, 0, what), HIDDEN);
        }
        due("what 2", room.hits(0, 0, -1, 0, 2), -1);
        due("no hall", new GlassRoom().hits(0, 1, 0, 0, 0), HIDDEN);
    }

    private static void round() {
        Check.by("ROUND: by how many cushions it is as at first, where and whither.");
        int[][] rows = {{1, 1, 1, 1, 4}, {1, 1, 9, 8, 34}, {1, 1, 1, 0, 2}, {1, 1, 0, -9, 2}, {20, 20, 9, 8, 34}, {20, 20, 9, 9, 4},
            {20, 19, 9, 8, 662}, {20, 19, -9, -8, 662}, {20, 19, 9, 9, 78}, {20, 1, 9, 1, 58}, {1, 20, 9, 1, 362}, {20, 19, 9, 0, 2},
            {20, 19, 0, 9, 2}, {4, 3, 4, 3, 4}, {4, 3, 8, 6, 4}, {4, 3, -8, 6, 4}, {4, 3, 4, -3, 4}};
        for (int[] r : rows) {
            due("round in " + r[0] + " " + r[1] + " by " + r[2] + " " + r[3],
                    Check.room("rw" + r[0] + "h" + r[1] + "g0;b").round(r[2], r[3]), r[4]);
        }
        Check.by("ROUND. NONE: no HALL, out of bounds.");
        due("no hall", new GlassRoom().round(1, 1), NONE);
        due("no hall, out of bounds", new GlassRoom().round(0, 0), NONE);
        due("both 0", Check.room(PAIR).round(0, 0), NONE);
    }

    private static void ways() {
        Check.by("WAYS from a BODY to a BODY by just n (0 .. 10) cushions: unlike places of IMAGES with n GLASSES (all walls), "
                + "but where it begins.");
        for (int glass = 0; glass <= 15; glass += 15) {
            GlassRoom room = Check.room("rw4h3g" + glass + ";b;bx3y2a0");
            for (int n = 0; n <= 10; n++) {
                due("ways by " + n, room.ways(0, 1, n), n == 0 ? 1 : 4 * n);
                due("ways to itself by " + n, room.ways(0, 0, n), 4 * n);
            }
        }
        // In a corner i 1 and 2 (-1 and 0, ..) are at one place, likewise j.
        GlassRoom wall = Check.room("rw4h3;bx0y1;bx2y1;bx0y1;bx0y0");
        int[][] rows = {{1, 0, 0, 1}, {1, 0, 1, 4}, {0, 0, 1, 3}, {0, 0, 0, 0}, {2, 0, 0, 0}, {0, 2, 1, 3}, {1, 0, 2, 8}, {1, 3, 2, 6},
            {3, 3, 2, 5}, {3, 3, 0, 0}, {3, 3, 1, 2}, {1, 3, 1, 3}};
        for (int[] r : rows) {
            due("ways " + r[0] + " " + r[1] + " " + r[2], wall.ways(r[0], r[1], r[2]), r[3]);
        }
        Check.by("WAYS. NONE: no such ones, out of bounds.");
        GlassRoom room = Check.room(PAIR);
        for (int no : NO_SUCH) {
            due("body " + no, room.ways(no, 0, 0), NONE);
            due("other " + no, room.ways(0, no, 0), NONE);
        }
        for (int n : new int[] {-1, 11, Check.LOW, Check.HIGH}) {
            due("n " + n, room.ways(0, 1, n), NONE);
        }
        due("no hall", new GlassRoom().ways(0, 0, 0), NONE);
    }

    // ---- glasses on walls

    private static void hang() {
        Check.by("HANG on a wall (0 left, 1 right, 2 below, 3 above): where along it (from below, from the left) "
                + "an EYE sees a BODY in it: a fraction made plain.");
        GlassRoom room = Check.room(PAIR);
        int[][] rows = {{5, 4}, {7, 4}, {5, 3}, {7, 3}};
        for (int wall = 0; wall < 4; wall++) {
            due("above, wall " + wall, room.hang(0, 1, wall, 0), rows[wall][0]);
            due("below, wall " + wall, room.hang(0, 1, wall, 1), rows[wall][1]);
            due("above, the other way, wall " + wall, room.hang(1, 0, wall, 0), rows[wall][0]);
        }
        GlassRoom plain = Check.room("bx2y2;bx2y6;bx6y2;bx2y0;bx4y0");
        int[][] plains = {{0, 1, 0, 4, 1}, {0, 2, 0, 2, 1}, {0, 2, 2, 4, 1}, {3, 4, 0, 0, 1}, {1, 2, 0, 5, 1}, {1, 2, 1, 10, 3},
            {1, 4, 3, 12, 5}};
        for (int[] p : plains) {
            due("made plain, above", plain.hang(p[0], p[1], p[2], 0), p[3]);
            due("made plain, below", plain.hang(p[0], p[1], p[2], 1), p[4]);
        }
        Check.by("HANG: above (0), below (1). NONE: none, no such ones, alike.");
        for (int no : NO_SUCH) {
            due("eye " + no, room.hang(no, 0, 0, 0), NONE);
            due("body " + no, room.hang(0, no, 0, 0), NONE);
        }
        for (int wall = 0; wall < 4; wall++) {
            due("alike, wall " + wall, room.hang(0, 0, wall, 0), NONE);
            due("alike, wall " + wall, room.hang(1, 1, wall, 1), NONE);
        }
        for (int wall : new int[] {-1, 4, Check.LOW, Check.HIGH}) {
            due("wall " + wall, room.hang(0, 1, wall, 0), NONE);
            due("pane, wall " + wall, room.pane(0, wall, 0), NONE);
        }
        for (int part : new int[] {-1, 2, Check.LOW, Check.HIGH}) {
            due("part " + part, room.hang(0, 1, 0, part), NONE);
            due("pane, part " + part, room.pane(0, 0, part), NONE);
        }
        due("no hall", new GlassRoom().hang(0, 1, 0, 0), NONE);
    }

    private static void hangOnTheWall() {
        Check.by("(Both on that wall: none.)");
        String[] onWall = {"bx0y2;bx0y5", "bx10y2;bx10y5", "bx2y0;bx5y0", "bx2y8;bx5y8"};
        for (int wall = 0; wall < 4; wall++) {
            GlassRoom room = Check.room(onWall[wall] + ";bx4y4");
            for (int part = 0; part < 2; part++) {
                due("both on wall " + wall, room.hang(0, 1, wall, part), NONE);
                due("both on wall " + wall, room.hang(1, 0, wall, part), NONE);
                for (int other = 0; other < 4; other++) {
                    Check.due("in wall " + other, room.hang(0, 1, other, part) != NONE, other != wall);
                }
                due("the eye alone on wall " + wall, room.hang(0, 2, wall, part), part == 0 ? 2 : 1);
                due("the body alone on wall " + wall, room.hang(2, 1, wall, part), part == 0 ? 5 : 1);
            }
        }
        GlassRoom near = Check.room("bx0y2;bx1y5");
        due("one of them a step off it", near.hang(0, 1, 0, 0), 2);
        GlassRoom corner = Check.room("bx0y0;bx0y0");
        due("both in the corner, left", corner.hang(0, 1, 0, 0), NONE);
        due("both in the corner, below", corner.hang(0, 1, 2, 0), NONE);
        due("both in the corner, right", corner.hang(0, 1, 1, 0), 0);
        due("both in the corner, right", corner.hang(0, 1, 1, 1), 1);
    }

    private static void pane() {
        Check.by("GLASS so long: from the least to the greatest of HANG of all other BODIES.");
        GlassRoom room = Check.room("bx0y2;bx0y5;bx3y3;bx2y6");
        // In the right wall: 7/2, 44/17 and 38/9; in the left one the eye stands itself, at 2; below: 0, 6/5, 1/2.
        int[][] rows = {{0, 0, 1}, {1, 250, 153}, {2, 6, 5}};
        for (int[] r : rows) {
            due("above, wall " + r[0], room.pane(0, r[0], 0), r[1]);
            due("below, wall " + r[0], room.pane(0, r[0], 1), r[2]);
        }
        // Eye, wall; above, below.
        int[][] six = {{0, 0, 45, 11}, {0, 1, 11, 2}, {0, 2, 623, 90}, {0, 3, 55, 6}, {1, 0, 153, 26}, {1, 1, 44, 7}, {2, 0, 324, 65},
            {2, 2, 0, 1}, {2, 3, 26, 3}, {3, 0, 370, 77}, {3, 1, 0, 1}, {4, 1, 55, 8}, {4, 2, 51, 10}, {5, 0, 156, 35}, {5, 2, 25, 4},
            {5, 3, 22, 3}};
        GlassRoom all = Check.room("bx1y7;bx9y2;bx4y0;bx10y8;bx0y3;bx6y6");
        for (int[] s : six) {
            due("above, eye " + s[0] + ", wall " + s[1], all.pane(s[0], s[1], 0), s[2]);
            due("below, eye " + s[0] + ", wall " + s[1], all.pane(s[0], s[1], 1), s[3]);
        }
        GlassRoom two = Check.room("bx4y1;bx4y7;bx4y4");
        due("the first one is an end", two.pane(2, 0, 0), 3);
        due("the first one is an end", two.pane(2, 0, 1), 1);
        GlassRoom pair = Check.room(PAIR);
        due("one other alone", pair.pane(0, 1, 0), 0);
        due("one other alone", pair.pane(0, 1, 1), 1);
        Check.by("NONE: no other BODY has a HANG, no such ones.");
        GlassRoom wall = Check.room("bx0y2;bx0y5;bx0y7");
        for (int part = 0; part < 2; part++) {
            due("all on the wall", wall.pane(0, 0, part), NONE);
            due("nobody else", Check.room("b").pane(0, 0, part), NONE);
            due("no hall", new GlassRoom().pane(0, 0, part), NONE);
        }
        due("the wall across, above", wall.pane(0, 1, 0), 1);
        due("the wall across, below", wall.pane(0, 1, 1), 1);
        wall.move(2, 1, 7);
        due("one a step off", wall.pane(0, 0, 0), 0);
        due("one a step off", wall.pane(0, 0, 1), 1);
        for (int no : NO_SUCH) {
            due("eye " + no, pair.pane(no, 0, 0), NONE);
        }
    }

    // ---- two glasses

    private static void hinge() {
        Check.by("rows of IMAGES from the first glass (at 0), from the other (at a): at p first; thrown back by 0 it stands at "
                + "its number turned round (0 less it), by a at twice a less it; by both in turn, as long as it lies before the "
                + "glass that comes next (before 0: above 0, below 180; before a: above a less 180, below a; all round 360).");
        // 50, 20: 340 120 240 220, and 80 280 180, which is not below 180. 100, 80: 280, which is not above -80; 120 240.
        int[][] rows = {{50, 20, 7, 4}, {50, 21, 8, 4}, {50, 19, 7, 4}, {50, 30, 7, 4}, {50, 29, 8, 4}, {50, 31, 7, 4}, {100, 80, 3, 2},
            {100, 79, 4, 2}, {100, 81, 3, 2}, {100, 20, 3, 2}, {100, 21, 4, 2}, {120, 60, 2, 2}, {120, 59, 3, 2}, {120, 61, 3, 2},
            {179, 1, 2, 2}, {179, 178, 2, 2}, {178, 1, 3, 2}, {178, 2, 2, 2}, {178, 89, 2, 2}};
        hingesAre(rows);
        Check.by("How many unlike places there are (p not)");
        // 60, 30: 330 150 210, and 90 270 210.
        int[][] unlike = {{60, 30, 5, 3}, {60, 1, 5, 3}, {60, 59, 5, 3}, {90, 45, 3, 2}, {90, 1, 3, 2}, {90, 89, 3, 2}, {180, 1, 1, 1},
            {180, 90, 1, 1}, {180, 179, 1, 1}, {2, 1, 179, 90}, {3, 1, 119, 60}, {3, 2, 119, 60}};
        hingesAre(unlike);
        Check.by("how many of these are TURNED (thrown back an odd number of times; "
                + "a place that comes twice: as by the row from 0).");
        // 60, 30: 210 by three throws in both rows. 90, 45: 225 by two. 180, 90: 270 by one.
        int[][] twice = {{60, 30, 5, 3}, {90, 45, 3, 2}, {180, 90, 1, 1}, {45, 9, 7, 4}, {36, 35, 9, 5}};
        hingesAre(twice);
    }

    private static void hingesAre(int[][] rows) {
        GlassRoom room = new GlassRoom();
        for (int[] r : rows) {
            due("hinge " + r[0] + " " + r[1], room.hinge(r[0], r[1], 0), r[2]);
            due("turned " + r[0] + " " + r[1], room.hinge(r[0], r[1], 1), r[3]);
        }
    }

    private static void refusedHinges() {
        Check.by("two glasses at an angle of a (1 .. 180 of 360), a place at p (above 0, below a) between");
        GlassRoom room = new GlassRoom();
        int[][] beyond = {{1, 0}, {1, 1}, {0, 0}, {0, -1}, {-1, -2}, {2, 0}, {2, 2}, {181, 90}, {181, 1}, {180, 0}, {180, 180}, {180, 181},
            {90, 0}, {90, 90}, {90, 91}, {90, -1}, {Check.LOW, 1}, {Check.HIGH, 1}, {90, Check.LOW}, {90, Check.HIGH},
            {Check.LOW, Check.LOW}};
        for (int[] b : beyond) {
            due("hinge " + b[0] + " " + b[1], room.hinge(b[0], b[1], 0), NONE);
            due("turned " + b[0] + " " + b[1], room.hinge(b[0], b[1], 1), NONE);
        }
        Check.by("HINGE: how many (0), TURNED (1). NONE: out of bounds.");
        for (int what : new int[] {-1, 2, Check.LOW, Check.HIGH}) {
            due("what " + what, room.hinge(90, 45, what), NONE);
        }
    }

    private static void angles() {
        Check.by("ANGLES from which so many are to be seen from some whole p: how many, the i-th (rising).");
        GlassRoom room = new GlassRoom();
        // So many; how many angles, the first, the last.
        int[][] rows = {{1, 1, 180, 180}, {2, 60, 120, 179}, {3, 89, 90, 178}, {4, 47, 72, 119}, {5, 30, 60, 89}, {6, 19, 52, 71},
            {12, 4, 28, 32}, {89, 1, 4, 4}, {119, 1, 3, 3}, {179, 1, 2, 2}};
        for (int[] r : rows) {
            due("how many of " + r[0], room.angles(r[0], NONE), r[1]);
            due("the first of " + r[0], room.angles(r[0], 0), r[2]);
            due("the last of " + r[0], room.angles(r[0], r[1] - 1), r[3]);
            Check.by("ANGLES: how many (i NONE), the i-th. NONE: no such one.");
            for (int i : new int[] {r[1], -2, Check.LOW, Check.HIGH}) {
                due("angles " + r[0] + " " + i, room.angles(r[0], i), NONE);
            }
        }
        int[] twelve = {28, 29, 31, 32};
        for (int i = 0; i < 4; i++) {
            due("twelve, rising", room.angles(12, i), twelve[i]);
        }
        for (int many : new int[] {0, -1, 180, 359, 360, Check.LOW, Check.HIGH}) {
            due("never " + many, room.angles(many, NONE), 0);
            due("no first of " + many, room.angles(many, 0), NONE);
        }
    }

    private static void beads() {
        Check.by("BEADS: rows of k (1 .. 12) beads of c (1 .. 4) sorts, alike, if one is the other read from behind: how many unlike.");
        GlassRoom room = new GlassRoom();
        int[][] rows = {{1, 1, 1}, {1, 2, 2}, {1, 4, 4}, {2, 1, 1}, {2, 2, 3}, {2, 4, 10}, {3, 2, 6}, {3, 4, 40}, {11, 4, 2099200},
            {12, 1, 1}, {12, 2, 2080}, {12, 3, 266085}, {12, 4, 8390656}};
        for (int[] r : rows) {
            due("beads " + r[0] + " " + r[1], room.beads(r[0], r[1]), r[2]);
        }
        Check.by("BEADS. NONE: out of bounds.");
        int[][] beyond = {{0, 1}, {13, 1}, {1, 0}, {1, 5}, {12, 0}, {12, 5}, {0, 4}, {13, 4}, {-1, 1}, {1, -1}, {Check.LOW, 1},
            {1, Check.LOW}, {Check.HIGH, 4}, {12, Check.HIGH}};
        for (int[] b : beyond) {
            due("beads " + b[0] + " " + b[1], room.beads(b[0], b[1]), NONE);
        }
    }

    // ---- photographs

    private static void photos() {
        Check.by("PHOTOS (12 at most): from an EYE something has an IMAGE THERE with i, j from -2 to 2 so FAR (0 .. 99,999;");
        GlassRoom room = Check.room(PAIR);
        due("no photo", room.count(8), 0);
        for (int far : new int[] {-1, 100000, Check.LOW, Check.HIGH}) {
            due("far " + far, room.photo(0, far), NONE);
        }
        for (int no : NO_SUCH) {
            due("eye " + no, room.photo(no, 0), NONE);
        }
        due("still no photo", room.count(8), 0);
        due("everywhere", room.fits(NONE), 20);
        due("far 0", room.photo(0, 0), 1);
        due("far 99999", room.photo(1, 99999), 2);
        for (int k = 3; k <= 12; k++) {
            due("photo " + k, room.photo(0, 5), k);
        }
        Check.by("PHOTOS: how many there are. NONE: no such EYE, out of bounds, there are 12.");
        due("a 13th", room.photo(0, 5), NONE);
        due("twelve", room.count(8), 12);
        due("no hall", new GlassRoom().photo(0, 0), NONE);
        GlassRoom same = Check.room("rg0;bx3y3");
        for (int k = 1; k <= 12; k++) {
            due("the same one twelve times", same.photo(0, 0), k);
        }
        due("a 13th that would fit nowhere", same.photo(0, 99999), NONE);
        due("is not there", same.fits(NONE), 1);
        due("is not there", same.fits(0), 303);
        GlassRoom last = Check.room("rg0;bx3y3");
        for (int k = 1; k <= 11; k++) {
            last.photo(0, 0);
        }
        due("the 12th fits nowhere", last.photo(0, 99999), 12);
        due("it counts", last.fits(NONE), 0);
    }

    private static void fitsEverywhere() {
        Check.by("FITS: whole places in the ROOM (100 times x and y) where it could stand by all PHOTOS: how many, the i-th (rising).");
        GlassRoom wide = Check.room("rw20h20;b");
        due("all", wide.fits(NONE), 441);
        int[][] rows = {{0, 0}, {1, 1}, {20, 20}, {21, 100}, {22, 101}, {419, 1920}, {420, 2000}, {440, 2020}};
        for (int[] r : rows) {
            due("fits " + r[0], wide.fits(r[0]), r[1]);
        }
        Check.by("FITS: how many (i NONE), the i-th. NONE: no such one, no HALL.");
        for (int i : new int[] {441, -2, Check.LOW, Check.HIGH}) {
            due("fits " + i, wide.fits(i), NONE);
        }
        GlassRoom small = Check.room("rw1h1;b");
        due("the smallest room", small.fits(NONE), 4);
        due("the last of it", small.fits(3), 101);
        due("no more of it", small.fits(4), NONE);
        due("no hall", new GlassRoom().fits(NONE), NONE);
        due("no hall", new GlassRoom().fits(0), NONE);
        GlassRoom nowhere = Check.room("rg0;b");
        nowhere.photo(0, 99999);
        due("nowhere", nowhere.fits(NONE), 0);
        due("no first of none", nowhere.fits(0), NONE);
    }

    private static void fitsByCells() {
        Check.by("with i, j from -2 to 2 so FAR");
        // From 0, 0 in a room of 4, 3 it is x, 8 - x or 8 + x to the side, y, 6 - y or 6 + y up; by i 3 it were 16 - x.
        int[][] rows = {{64, 0, 2}, {81, 3, 100}, {100, 0, 200, 202}, {121, 300}, {144, 400}, {169, 401}, {170, 301}, {225, 403},
            {226}, {256}};
        for (int[] r : rows) {
            GlassRoom room = Check.room("rw4h3;bx0y0");
            room.photo(0, r[0]);
            fitsAre(room, "so far: " + r[0], r);
        }
        // From 4, 3 it is 4 - x, 4 + x or 12 - x to the side, 3 - y, 3 + y or 9 - y up; by i -3 it were 12 + x.
        int[][] right = {{144, 3}, {169, 2}, {225, 0}, {256}, {441}};
        for (int[] r : right) {
            GlassRoom room = Check.room("rw4h3;bx4y3");
            room.photo(0, r[0]);
            fitsAre(room, "so far from 4, 3: " + r[0], r);
        }
        Check.by("something has an IMAGE THERE");
        // 5 off from 1, 1 in a room of 5, 5: the first number tells the glass.
        int[][] glasses = {{0, 405, 504}, {1, 205, 304, 401, 405, 504}, {2, 401, 405, 504}, {3, 205, 304, 401, 405, 504},
            {4, 104, 403, 405, 502, 504}, {8, 104, 405, 504}};
        for (int[] g : glasses) {
            GlassRoom room = Check.room("rw5h5g" + g[0] + ";bx1y1");
            room.photo(0, 25);
            fitsAre(room, "glass " + g[0], g);
        }
    }

    /** The places stand behind the first number of a row. */
    private static void fitsAre(GlassRoom room, String what, int[] row) {
        due("places, " + what, room.fits(NONE), row.length - 1);
        for (int k = 1; k < row.length; k++) {
            due("place " + k + ", " + what, room.fits(k - 1), row[k]);
        }
        due("no more places, " + what, room.fits(row.length - 1), NONE);
    }

    private static void fitsAsAsked() {
        Check.by("by the place of the EYE and GLASS as they are when it is asked");
        GlassRoom room = Check.room("rw4h3g0;b;bx3y2");
        room.photo(0, 5);
        int[] places = {3, 203, 300, 302};
        due("at first", room.fits(NONE), 4);
        for (int k = 0; k < 4; k++) {
            due("at first " + k, room.fits(k), places[k]);
        }
        room.move(0, 0, 0);
        due("from 0, 0", room.fits(NONE), 2);
        due("from 0, 0", room.fits(0), 102);
        room.move(1, 4, 3);
        due("the other one's place is nothing to it", room.fits(NONE), 2);
        room.glass(15);
        due("with glass at 0, 0", room.fits(NONE), 2);
        room.undo();
        room.undo();
        room.undo();
        due("undone", room.fits(NONE), 4);
        room.glass(15);
        due("with glass", room.fits(NONE), 8);
        Check.by("where it could stand by all PHOTOS");
        GlassRoom both = Check.room("rw4h3g0;bx0y0;bx4y0;bx2y3");
        both.photo(1, 5);
        fitsAre(both, "by the second one", new int[] {0, 201, 302});
        both.photo(2, 2);
        fitsAre(both, "by the third one, too", new int[] {0, 302});
        both.photo(0, 13);
        fitsAre(both, "by all three", new int[] {0, 302});
        both.move(1, 1, 1);
        fitsAre(both, "the second one moved", new int[] {0, 302});
        both.move(1, 1, 2);
        fitsAre(both, "the second one moved off", new int[] {0});
    }
}
