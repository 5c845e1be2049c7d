/** The boundaries of IMAGES (promises 12, 13, 15 to 20, and 'Terms' from '==== 2.' on), sentence by sentence. */
public final class ImageBoundaryTest {
    private static final int NONE = GlassRoom.NONE;
    private static final int HIDDEN = GlassRoom.HIDDEN;
    private static final int[] NO_SUCH = {-1, 2, Check.LOW, Check.HIGH};
    /** Width 4, height 3; 0 at 1, 1, its arm 1; 1 at 3, 2, its arm 0. */
    private static final String PAIR = "rw4h3;b;bx3y2a0";

    // Where body 1 of PAIR has its images from -10 to 10, written out.
    private static final int[] XS = {-37, -35, -29, -27, -21, -19, -13, -11, -5, -3, 3, 5, 11, 13, 19, 21, 27, 29, 35, 37, 43};
    private static final int[] YS = {-28, -26, -22, -20, -16, -14, -10, -8, -4, -2, 2, 4, 8, 10, 14, 16, 20, 22, 26, 28, 32};
    // What is left of 1,000,000 behind 0 to 20 glasses that take 10 of 100 each.
    private static final int[] BRIGHTS = {1000000, 900000, 810000, 729000, 656100, 590490, 531441, 478296, 430466, 387419,
        348677, 313809, 282428, 254185, 228766, 205889, 185300, 166770, 150093, 135083, 121574};
    // In a room of 2, 2 from its middle: i, j, FAR.
    private static final int[][] MIDDLE = {{0, 0, 0}, {-1, 0, 4}, {0, -1, 4}, {0, 1, 4}, {1, 0, 4}, {-1, -1, 8}, {-1, 1, 8}, {1, -1, 8},
        {1, 1, 8}, {-2, 0, 16}, {0, -2, 16}, {0, 2, 16}, {2, 0, 16}, {-2, -1, 20}, {-2, 1, 20}, {-1, -2, 20}, {-1, 2, 20}, {1, -2, 20},
        {1, 2, 20}, {2, -1, 20}, {2, 1, 20}};

    private ImageBoundaryTest() {
    }

    public static void main(String[] args) {
        cells();
        places();
        whatIsThere();
        turned();
        bright();
        refusedImages();
        far();
        near();
        within();
        brighter();
        seenBetween();
        seenAtTheEnds();
        seenInGlass();
        refusedSights();
        view();
        walls();
        wallsThatHide();
        Check.finish("ImageBoundaryTest");
    }

    private static void due(String what, long got, long want) {
        Check.due(what, got, want);
    }

    private static void cells() {
        Check.by("An IMAGE of a BODY is told by i, j (-10 .. 10; 0, 0 is the BODY itself)");
        GlassRoom room = Check.room(PAIR);
        for (int body = 0; body < 2; body++) {
            for (int what = 0; what < 3; what++) {
                due("the body itself", room.image(body, 0, 0, what), room.body(body, what));
            }
            due("the body itself, bright", room.image(body, 0, 0, 3), 1000000);
            due("the body itself, there", room.image(body, 0, 0, 4), 1);
        }
        int[][] corners = {{-10, -10}, {-10, 10}, {10, -10}, {10, 10}};
        for (int[] c : corners) {
            due("corner x", room.image(1, c[0], c[1], 0), XS[c[0] + 10]);
            due("corner y", room.image(1, c[0], c[1], 1), YS[c[1] + 10]);
            int dx = XS[c[0] + 10] - 1;
            int dy = YS[c[1] + 10] - 1;
            due("corner far", room.far(1, c[0], c[1], 0), dx * dx + dy * dy);
            due("corner light", room.lightOf(1, c[0], c[1], 0), 121574);
            Check.due("corner seen", room.seen(1, c[0], c[1], 0) != NONE, true);
        }
        int[][] beyond = {{-11, 0}, {11, 0}, {0, -11}, {0, 11}, {-11, -11}, {11, 11}, {-11, 11}, {10, 11}, {11, 10}, {-10, -11},
            {Check.LOW, 0}, {0, Check.LOW}, {Check.HIGH, 0}, {0, Check.HIGH}, {Check.LOW, Check.HIGH}};
        for (int[] b : beyond) {
            for (int what = 0; what <= 4; what++) {
                due("image " + b[0] + " " + b[1], room.image(1, b[0], b[1], what), HIDDEN);
            }
            due("far " + b[0] + " " + b[1], room.far(1, b[0], b[1], 0), NONE);
            due("lightOf " + b[0] + " " + b[1], room.lightOf(1, b[0], b[1], 0), HIDDEN);
            due("seen " + b[0] + " " + b[1], room.seen(1, b[0], b[1], 0), NONE);
        }
    }

    private static void places() {
        Check.by("it stands at i times WIDTH and x, if i is even, at i times WIDTH and WIDTH less x, if it is odd; "
                + "likewise by j, HEIGHT, y.");
        GlassRoom room = Check.room(PAIR);
        for (int cell = -10; cell <= 10; cell++) {
            due("x in " + cell, room.image(1, cell, 0, 0), XS[cell + 10]);
            due("x does not hang on j", room.image(1, cell, -3, 0), XS[cell + 10]);
            due("y in " + cell, room.image(1, 0, cell, 1), YS[cell + 10]);
            due("y does not hang on i", room.image(1, 7, cell, 1), YS[cell + 10]);
        }
        GlassRoom edges = Check.room("rw20h20;bx0y20");
        int[][] rows = {{-10, -200, -180}, {-9, -160, -180}, {-1, 0, -20}, {0, 0, 20}, {1, 40, 20}, {9, 200, 180}, {10, 200, 220}};
        for (int[] r : rows) {
            due("on the left wall, " + r[0], edges.image(0, r[0], 0, 0), r[1]);
            due("on the wall above, " + r[0], edges.image(0, 0, r[0], 1), r[2]);
        }
    }

    private static void whatIsThere() {
        Check.by("THERE are those: any i with GLASS left and right; 0, 1 with GLASS right alone; 0, -1 with GLASS left alone; "
                + "0 without; likewise j with GLASS below (-1), above (1).");
        int[] low = {0, -1, 0, -10};
        int[] high = {0, 0, 1, 10};
        for (int walls = 0; walls <= 15; walls++) {
            int side = walls & 3;
            int up = walls >> 2;
            GlassRoom room = Check.room("rw4h3g" + walls + ";b;bx3y2a0");
            for (int cell = -10; cell <= 10; cell++) {
                boolean iThere = cell >= low[side] && cell <= high[side];
                boolean jThere = cell >= low[up] && cell <= high[up];
                due("glass " + walls + " i " + cell, room.image(0, cell, 0, 4), iThere ? 1 : 0);
                due("glass " + walls + " j " + cell, room.image(0, 0, cell, 4), jThere ? 1 : 0);
                due("glass " + walls + " both " + cell, room.image(0, cell, cell, 4), iThere && jThere ? 1 : 0);
                due("glass " + walls + " across " + cell, room.image(0, cell, -cell, 4),
                        iThere && -cell >= low[up] && -cell <= high[up] ? 1 : 0);
                due("glass " + walls + " seen i " + cell, room.seen(1, cell, 0, 0), iThere ? 1 : 0);
                due("glass " + walls + " seen j " + cell, room.seen(1, 0, cell, 0), jThere ? 1 : 0);
            }
            int there = (high[side] - low[side] + 1) * (high[up] - low[up] + 1);
            Check.due("the last one there", room.near(1, 0, there - 1, 2) >= 0, true);
            due("no more there", room.near(1, 0, there, 2), HIDDEN);
            due("within, all there", room.within(1, 0, 99), there);
            due("brighter, all there", room.brighter(0, Check.LOW), 2 * there);
        }
    }

    private static void turned() {
        Check.by("GLASSES of an IMAGE: i and j without their signs together; it is TURNED, if these are odd: "
                + "its ARM is the other one then.");
        GlassRoom room = Check.room(PAIR);
        int[][] rows = {{0, 0, 0}, {1, 0, 1}, {-1, 0, 1}, {0, 1, 1}, {0, -1, 1}, {1, 1, 0}, {-1, 1, 0}, {-1, -1, 0}, {2, 0, 0}, {2, -1, 1},
            {-10, 10, 0}, {-10, -9, 1}, {9, 10, 1}, {-9, 9, 0}};
        for (int[] r : rows) {
            due("right arm " + r[0] + " " + r[1], room.image(0, r[0], r[1], 2), 1 - r[2]);
            due("left arm " + r[0] + " " + r[1], room.image(1, r[0], r[1], 2), r[2]);
        }
    }

    private static void bright() {
        Check.by("BRIGHT: 1,000,000, for each of its GLASSES less what that TAKES: (100 less TAKES) of 100 of it, cut.");
        GlassRoom room = Check.room(PAIR);
        for (int glasses = 0; glasses <= 20; glasses++) {
            int i = Math.min(glasses, 10);
            due(glasses + " glasses", room.image(0, i, glasses - i, 3), BRIGHTS[glasses]);
            due(glasses + " glasses, the other way", room.image(0, i - glasses, -i, 3), BRIGHTS[glasses]);
            due("takes 0", Check.room("rt0;b").image(0, i, glasses - i, 3), 1000000);
        }
        int[] of99 = {1000000, 10000, 100, 1, 0, 0};
        int[] of1 = {1000000, 990000, 980100, 970299, 960596, 950990};
        int[] of33 = {1000000, 670000, 448900, 300763, 201511, 135012};
        for (int glasses = 0; glasses < 6; glasses++) {
            due("takes 99", Check.room("rt99;b").image(0, glasses, 0, 3), of99[glasses]);
            due("takes 1", Check.room("rt1;b").image(0, 0, glasses, 3), of1[glasses]);
            due("takes 33", Check.room("rt33;b").image(0, -glasses, 0, 3), of33[glasses]);
        }
        Check.by("WORTH by the LIGHT that holds (none at first: BRIGHT)");
        due("none at first", room.lightOf(0, -2, 1, 1), 729000);
    }

    private static void refusedImages() {
        Check.by("0 where from left to right, 1 up, 2 its ARM, 3 BRIGHT, 4 whether it is THERE (1, 0). HIDDEN: no such ones.");
        GlassRoom room = Check.room(PAIR);
        for (int no : NO_SUCH) {
            for (int what = 0; what <= 4; what++) {
                due("body " + no, room.image(no, 0, 0, what), HIDDEN);
                due("no hall", new GlassRoom().image(0, 0, 0, what), HIDDEN);
            }
        }
        for (int what : new int[] {-1, 5, Check.LOW, Check.HIGH}) {
            due("what " + what, room.image(0, 0, 0, what), HIDDEN);
        }
        due("what 4", room.image(0, 0, 0, 4), 1);
        due("the last body", room.image(1, 0, 0, 0), 3);
    }

    private static void far() {
        Check.by("FAR: how far it stands from an EYE (a BODY where it stands itself), squared.");
        GlassRoom room = Check.room("rw4h3g0;b;bx3y2a0");
        due("itself from itself", room.far(0, 0, 0, 0), 0);
        due("the other one", room.far(1, 0, 0, 0), 5);
        due("and back", room.far(0, 0, 0, 1), 5);
        Check.by("FAR (whether it is THERE or not). NONE: no such ones.");
        due("not there", room.far(1, 10, -10, 0), 42 * 42 + 29 * 29);
        due("one's own image not there", room.far(0, -1, 0, 0), 4);
        for (int no : NO_SUCH) {
            due("body " + no, room.far(no, 0, 0, 0), NONE);
            due("eye " + no, room.far(0, 0, 0, no), NONE);
        }
        due("no hall", new GlassRoom().far(0, 0, 0, 0), NONE);
        GlassRoom wide = Check.room("rw20h20;bx0y0;bx20y20");
        due("the farthest of all", wide.far(1, 10, 10, 0), 96800);
        due("the farthest to the left", wide.far(0, -10, -10, 1), 96800);
    }

    private static void near() {
        Check.by("NEAR: IMAGES of a BODY that are THERE by FAR from an EYE (alike: by i, then j), from 0 on.");
        GlassRoom room = Check.room("rw2h2;b;b");
        for (int n = 0; n < MIDDLE.length; n++) {
            for (int what = 0; what < 3; what++) {
                due("near " + n + " " + what, room.near(0, 1, n, what), MIDDLE[n][what]);
            }
        }
        int[][] last = {{-10, -10}, {-10, 10}, {10, -10}, {10, 10}};
        for (int k = 0; k < 4; k++) {
            due("near i " + (437 + k), room.near(1, 0, 437 + k, 0), last[k][0]);
            due("near j " + (437 + k), room.near(1, 0, 437 + k, 1), last[k][1]);
            due("near far " + (437 + k), room.near(1, 0, 437 + k, 2), 800);
        }
        due("the same body twice", room.near(0, 0, 0, 2), 0);
        GlassRoom wide = Check.room("rw20h20;bx0y0;bx20y20");
        due("the farthest of all, i", wide.near(1, 0, 440, 0), 10);
        due("the farthest of all, j", wide.near(1, 0, 440, 1), 10);
        due("the farthest of all", wide.near(1, 0, 440, 2), 96800);
        int[][] pair = {{0, 0, 5}, {0, -1, 13}, {0, 1, 13}, {-1, 0, 17}, {1, 0, 17}, {-1, -1, 25}, {-1, 1, 25}, {1, -1, 25}, {1, 1, 25},
            {0, -2, 29}, {-2, 0, 37}, {-1, -2, 41}};
        for (int n = 0; n < pair.length; n++) {
            for (int what = 0; what < 3; what++) {
                due("near in PAIR " + n + " " + what, Check.room(PAIR).near(1, 0, n, what), pair[n][what]);
            }
        }
        GlassRoom corner = Check.room("rw2h2g1;bx0y1");
        due("on the glass: two at one place, by i", corner.near(0, 0, 0, 0), -1);
        due("on the glass: two at one place, by i", corner.near(0, 0, 1, 0), 0);
        due("both at 0", corner.near(0, 0, 1, 2), 0);
        Check.by("HIDDEN: no such ones, so many are not THERE.");
        for (int n : new int[] {441, -1, Check.LOW, Check.HIGH, 442}) {
            for (int what = 0; what < 3; what++) {
                due("near " + n, room.near(0, 1, n, what), HIDDEN);
            }
        }
        for (int no : NO_SUCH) {
            due("body " + no, room.near(no, 0, 0, 0), HIDDEN);
            due("eye " + no, room.near(0, no, 0, 0), HIDDEN);
        }
        for (int what : new int[] {-1, 3, Check.LOW, Check.HIGH}) {
            due("what " + what, room.near(0, 0, 0, what), HIDDEN);
        }
        due("no hall", new GlassRoom().near(0, 0, 0, 0), HIDDEN);
    }

    private static void within() {
        Check.by("WITHIN: how many of these are no farther than so many (0 .. 99) to the sides and up together as the bird flies "
                + "(FAR no more than its square).");
        GlassRoom room = Check.room("rw10h8g0;bx0y0;bx3y4;bx5y1;bx0y7");
        int[][] rows = {{1, 4, 0}, {1, 5, 1}, {1, 6, 1}, {2, 5, 0}, {2, 6, 1}, {3, 6, 0}, {3, 7, 1}, {0, 0, 1}, {0, 99, 1}, {1, 0, 0},
            {1, 99, 1}};
        for (int[] r : rows) {
            due("within " + r[1] + " of body " + r[0], room.within(r[0], 0, r[1]), r[2]);
        }
        // 19 to the right in a room of 20: images at 99, 59, 19, -21, -61 and at 61, 21, -19, -59, -99, and farther ones.
        GlassRoom wide = Check.room("rw20h20g3;bx0y0;bx19y0");
        int[][] wides = {{99, 10}, {98, 8}, {61, 8}, {60, 6}, {19, 2}, {18, 0}, {0, 0}};
        for (int[] w : wides) {
            due("within " + w[0] + " in a wide room", wide.within(1, 0, w[0]), w[1]);
        }
        Check.by("WITHIN. NONE: no such ones, out of bounds.");
        for (int far : new int[] {-1, 100, Check.LOW, Check.HIGH, 65536}) {
            due("within " + far, room.within(1, 0, far), NONE);
        }
        for (int no : new int[] {-1, 4, Check.LOW, Check.HIGH}) {
            due("body " + no, room.within(no, 0, 5), NONE);
            due("eye " + no, room.within(0, no, 5), NONE);
        }
        due("no hall", new GlassRoom().within(0, 0, 0), NONE);
    }

    private static void brighter() {
        Check.by("BRIGHTER: how many IMAGES of all BODIES (that of the EYE, too) that are THERE have a LIGHT of so much or more.");
        GlassRoom room = Check.room(PAIR);
        int[][] rows = {{1000001, 0}, {1000000, 2}, {900001, 2}, {900000, 10}, {810001, 10}, {810000, 26}, {121575, 874}, {121574, 882},
            {0, 882}, {-1, 882}, {Check.LOW, 882}, {Check.HIGH, 0}};
        for (int[] r : rows) {
            due("brighter " + r[0], room.brighter(0, r[0]), r[1]);
            due("brighter " + r[0] + " from the other one", room.brighter(1, r[0]), r[1]);
        }
        due("one's own alone", Check.room("rg0;b").brighter(0, 1000000), 1);
        Check.addLight(room, "y:0-5");
        Check.addLight(room, "y:f");
        Check.addLight(room, "y:n>9&n<11?1");
        room.light(0);
        due("below 0, just so much", room.brighter(0, -5), 882);
        due("below 0, more", room.brighter(0, -4), 0);
        room.glass(0);
        room.light(1);
        due("far from the eye", room.brighter(0, 5), 1);
        due("farther than that", room.brighter(0, 6), 0);
        due("all of two", room.brighter(0, 0), 2);
        room.glass(3);
        room.light(2);
        due("ten glasses, in a row", room.brighter(0, 1), 4);
        Check.by("BRIGHTER. NONE: no such EYE.");
        for (int no : NO_SUCH) {
            due("eye " + no, room.brighter(no, 0), NONE);
        }
        due("no hall", new GlassRoom().brighter(0, 0), NONE);
    }

    private static void seenBetween() {
        Check.by("SEEN is an IMAGE that is THERE, if of no third BODY an IMAGE that is THERE (itself, too) "
                + "stands on the straight way between the EYE and it");
        int[][] ends = {{6, 3, 4, 2}, {9, 0, 3, 0}, {0, 6, 0, 1}, {6, 6, 5, 5}, {3, 6, 1, 2}};
        for (int[] e : ends) {
            GlassRoom room = Check.room("rg0;bx0y0;bx" + e[0] + "y" + e[1] + ";bx" + e[2] + "y" + e[3]);
            due("a third one between", room.seen(1, 0, 0, 0), 0);
            due("and back", room.seen(0, 0, 0, 1), 0);
            due("the third one itself", room.seen(2, 0, 0, 0), 1);
            room.move(2, e[2], e[3] + 1);
            due("one step aside, or on the way", room.seen(1, 0, 0, 0), e[0] == 0 ? 0 : 1);
            room.move(2, e[2] + 1, e[3]);
            due("one step aside, or on the way", room.seen(1, 0, 0, 0), e[1] == 0 ? 0 : 1);
        }
        GlassRoom first = Check.room("rg0;bx3y3;bx2y2;bx4y4");
        due("the first one between", first.seen(1, 0, 0, 2), 0);
        due("the first one between, and back", first.seen(2, 0, 0, 1), 0);
        GlassRoom beyond = Check.room("rg0;bx2y2;bx4y4;bx6y6;bx1y1");
        due("a third one beyond it, another behind the eye", beyond.seen(1, 0, 0, 0), 1);
        due("and back", beyond.seen(0, 0, 0, 1), 1);
        due("no third one: itself", beyond.seen(0, 0, 0, 0), 1);
        due("not there", beyond.seen(1, 0, 1, 0), 0);
    }

    private static void seenAtTheEnds() {
        Check.by("(not at either end)");
        GlassRoom room = Check.room("rg0;bx1y1;bx5y3;bx5y3;bx1y1");
        due("one where it stands, one where the eye stands", room.seen(1, 0, 0, 0), 1);
        due("the one where it stands", room.seen(2, 0, 0, 0), 1);
        due("the one where the eye stands", room.seen(3, 0, 0, 0), 1);
        room.move(2, 3, 2);
        due("one between", room.seen(1, 0, 0, 0), 0);
        GlassRoom upright = Check.room("rg0;bx1y1;bx1y5;bx1y5;bx1y1");
        due("upright, at both ends", upright.seen(1, 0, 0, 0), 1);
        upright.move(3, 1, 2);
        due("upright, right before the eye", upright.seen(1, 0, 0, 0), 0);
        upright.move(3, 1, 4);
        due("upright, right before it", upright.seen(1, 0, 0, 0), 0);
        upright.move(3, 1, 6);
        due("upright, right behind it", upright.seen(1, 0, 0, 0), 1);
        upright.move(3, 1, 0);
        due("upright, right behind the eye", upright.seen(1, 0, 0, 0), 1);
        GlassRoom down = Check.room("rg0;bx1y5;bx1y1;bx1y5;bx1y1");
        due("downwards, at both ends", down.seen(1, 0, 0, 0), 1);
        down.move(3, 1, 2);
        due("downwards, right before it", down.seen(1, 0, 0, 0), 0);
        down.move(3, 1, 4);
        due("downwards, right before the eye", down.seen(1, 0, 0, 0), 0);
        GlassRoom leftwards = Check.room("rg0;bx5y1;bx1y1;bx5y1;bx1y1");
        due("leftwards, at both ends", leftwards.seen(1, 0, 0, 0), 1);
        leftwards.move(3, 2, 1);
        due("leftwards, right before it", leftwards.seen(1, 0, 0, 0), 0);
        leftwards.move(3, 4, 1);
        due("leftwards, right before the eye", leftwards.seen(1, 0, 0, 0), 0);
        GlassRoom level = Check.room("rg0;bx1y1;bx5y1;bx4y1;bx9y1");
        due("level, right before it", level.seen(1, 0, 0, 0), 0);
        level.move(2, 2, 1);
        due("level, right before the eye", level.seen(1, 0, 0, 0), 0);
        level.move(2, 6, 1);
        due("level, right behind it", level.seen(1, 0, 0, 0), 1);
        level.move(2, 0, 1);
        due("level, right behind the eye", level.seen(1, 0, 0, 0), 1);
    }

    private static void seenInGlass() {
        Check.by("if of no third BODY an IMAGE that is THERE (itself, too)");
        // From 0, 0 the image of 4, 4 to the right stands at 16, 4; that of 8, 3 at 12, 3, on the way.
        GlassRoom right = Check.room("rg2;bx0y0;bx4y4;bx8y3");
        due("behind an image", right.seen(1, 1, 0, 0), 0);
        due("itself is free", right.seen(1, 0, 0, 0), 1);
        right.move(2, 8, 4);
        due("beside the image", right.seen(1, 1, 0, 0), 1);
        right.move(2, 8, 2);
        due("behind a body", right.seen(1, 1, 0, 0), 0);
        right.glass(1);
        due("no glass there", right.seen(1, 1, 0, 0), 0);
        // The same upwards, downwards and to the left: the one at 3, 8 or 3, 2 or 8, 3 has an image on the way.
        GlassRoom above = Check.room("rw8h10g8;bx0y0;bx4y4;bx3y8");
        due("behind an image above", above.seen(1, 0, 1, 0), 0);
        above.move(2, 4, 8);
        due("beside the image above", above.seen(1, 0, 1, 0), 1);
        GlassRoom below = Check.room("rw8h10g4;bx0y10;bx4y6;bx3y2");
        due("behind an image below", below.seen(1, 0, -1, 0), 0);
        below.move(2, 4, 2);
        due("beside the image below", below.seen(1, 0, -1, 0), 1);
        GlassRoom left = Check.room("rg1;bx10y0;bx6y4;bx2y3");
        due("behind an image to the left", left.seen(1, -1, 0, 0), 0);
        left.move(2, 2, 4);
        due("beside the image to the left", left.seen(1, -1, 0, 0), 1);
        GlassRoom own = Check.room("rw10h8g3;bx2y2;bx6y2");
        due("its own images hide nothing", own.seen(1, 2, 0, 0), 1);
        due("nor do the eye's", own.seen(1, -10, 0, 0), 1);
        due("of oneself the other one is a third", own.seen(0, 10, 0, 0), 0);
        due("one's own hide nothing", Check.room("rw10h8g3;bx2y2").seen(0, 10, 0, 0), 1);
        GlassRoom wall = Check.room("rw10h8g3;bx1y2;bx3y2;bx10y2");
        due("one on the glass hides what is behind it", wall.seen(1, 1, 0, 0), 0);
        due("not what is before it", wall.seen(1, 0, 0, 0), 1);
        due("all that is farther", wall.seen(0, 10, 0, 0), 0);
        due("its image to the left: one at -10, itself farther", wall.seen(1, -1, 0, 0), 1);
        due("behind that", wall.seen(1, -2, 0, 0), 0);
    }

    private static void refusedSights() {
        Check.by("SEEN (1, 0; 0, if it is not THERE). NONE: no such ones.");
        GlassRoom room = Check.room(PAIR);
        for (int no : NO_SUCH) {
            due("body " + no, room.seen(no, 0, 0, 0), NONE);
            due("eye " + no, room.seen(0, 0, 0, no), NONE);
        }
        due("no hall", new GlassRoom().seen(0, 0, 0, 0), NONE);
        Check.by("VIEW. NONE: no such ones, out of bounds.");
        for (int no : NO_SUCH) {
            due("body " + no, room.view(no, 0, 0), NONE);
            due("eye " + no, room.view(0, no, 0), NONE);
        }
        for (int n : new int[] {-1, 7, Check.LOW, Check.HIGH}) {
            due("n " + n, room.view(1, 0, n), NONE);
        }
        due("no hall", new GlassRoom().view(0, 0, 0), NONE);
    }

    private static void view() {
        Check.by("VIEW: how many IMAGES of a BODY with n GLASSES at most (0 .. 6) are SEEN.");
        int[][] rows = {{15, 1, 5, 13, 25, 41, 61, 85}, {3, 1, 3, 5, 7, 9, 11, 13}, {12, 1, 3, 5, 7, 9, 11, 13}, {1, 1, 2, 2, 2, 2, 2, 2},
            {8, 1, 2, 2, 2, 2, 2, 2}, {5, 1, 3, 4, 4, 4, 4, 4}, {7, 1, 4, 8, 12, 16, 20, 24}, {0, 1, 1, 1, 1, 1, 1, 1}};
        for (int[] r : rows) {
            GlassRoom room = Check.room("rw4h3g" + r[0] + ";b;bx3y2a0");
            GlassRoom alone = Check.room("rw4h3g" + r[0] + ";b");
            for (int n = 0; n <= 6; n++) {
                due("glass " + r[0] + " view " + n, room.view(1, 0, n), r[1 + n]);
                due("glass " + r[0] + " view of oneself " + n, alone.view(0, 0, n), r[1 + n]);
            }
        }
        GlassRoom row = Check.room("rw10h8g3;bx0y0;bx2y0;bx4y0");
        for (int n = 0; n <= 6; n++) {
            due("always behind another", row.view(2, 0, n), 0);
            due("left and right", row.view(1, 0, n), n == 0 ? 1 : 2);
        }
    }

    private static void walls() {
        Check.by("WALLS: the fewest walls (bits; of several the least; in place of GLASS) so that from an EYE each other BODY "
                + "is SEEN as often as told at least, with 2 GLASSES at most.");
        // With two bodies nobody hides: 1 without, 2 by one wall, 4 by two that meet, 5 by two that face, 8 by three, 13 by all.
        int[] dueWalls = {0, 0, 1, 3, 3, 3, 7, 7, 7, 15, 15, 15, 15, 15};
        for (int glass = 0; glass <= 15; glass += 5) {
            GlassRoom room = Check.room("rw4h3g" + glass + ";b;bx3y2a0");
            for (int least = 0; least <= 25; least++) {
                due("walls for " + least, room.walls(0, least), least <= 13 ? dueWalls[least] : NONE);
            }
            due("glass stays", room.count(3), glass);
            due("no act", room.count(9), 0);
        }
        Check.by("NONE: it can't be, no such EYE, out of bounds (least 0 .. 25).");
        GlassRoom room = Check.room(PAIR);
        for (int no : NO_SUCH) {
            due("eye " + no, room.walls(no, 0), NONE);
        }
        for (int least : new int[] {-1, 26, Check.LOW, Check.HIGH}) {
            due("least " + least, room.walls(0, least), NONE);
            due("least " + least + ", nobody else", Check.room("b").walls(0, least), NONE);
        }
        due("nobody else, 25", Check.room("b").walls(0, 25), 0);
        due("nobody else, 0", Check.room("b").walls(0, 0), 0);
        due("no hall", new GlassRoom().walls(0, 0), NONE);
    }

    private static void wallsThatHide() {
        Check.by("so that from an EYE each other BODY is SEEN as often as told at least");
        // All on the floor: to the sides the middle one hides the last, and glass below shows it where it is hidden.
        GlassRoom floor = Check.room("bx0y0;bx2y0;bx4y0");
        due("above alone", floor.walls(0, 1), 8);
        due("0 needs none", floor.walls(0, 0), 0);
        due("from the middle all are seen", floor.walls(1, 1), 0);
        due("from the other end", floor.walls(2, 1), 8);
        GlassRoom side = Check.room("rw8h10;bx0y0;bx0y2;bx0y4");
        due("right alone", side.walls(0, 1), 2);
        GlassRoom ceiling = Check.room("bx0y8;bx2y8;bx4y8");
        due("below alone", ceiling.walls(0, 1), 4);
        GlassRoom rightSide = Check.room("rw8h10;bx8y0;bx8y2;bx8y4");
        due("left alone", rightSide.walls(0, 1), 1);
        due("each of five others", Check.room("bx5y4;bx0y0;bx10y8;bx0y8;bx10y0;bx4y1").walls(0, 1), 0);
    }
}
