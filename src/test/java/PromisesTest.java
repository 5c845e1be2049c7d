/** For each promise the ordinary inputs, the edges that the document names, and wrong inputs; worked out by hand. */
public final class PromisesTest {
    private static final int NONE = GlassRoom.NONE;
    private static final int HIDDEN = GlassRoom.HIDDEN;
    private static final int LOW = Integer.MIN_VALUE;
    private static final int HIGH = Integer.MAX_VALUE;
    /** Width 4, height 3; 0 at 1, 1, its arm 1; 1 at 3, 2, its arm 0. */
    private static final String PAIR = "rw4h3;b;bx3y2a0";

    // Reckoned apart from any Java: the places of bodies at 1, 1, at 0, 0 and at 2, 3 in a room of 4, 3.
    private static final int[] STEPS_OF_SEED_1 = {2, 0, 0, 1, 3, 3};
    private static final int[] PARTS_OF_SEED_1 = {1, 0, 0, 1, 4, 2};

    private PromisesTest() {
    }

    public static void main(String[] args) {
        newObject();
        feed();
        end();
        hallFaults();
        lightFaults();
        text();
        body();
        light();
        move();
        glass();
        steps();
        undo();
        image();
        far();
        lightOf();
        near();
        within();
        brighter();
        seen();
        view();
        walls();
        hits();
        round();
        ways();
        hang();
        pane();
        hinge();
        angles();
        beads();
        photo();
        fits();
        keepAndBack();
        count();
        Check.finish("PromisesTest");
    }

    private static void due(String what, long got, long want) {
        Check.due(what, got, want);
    }

    private static void due(String what, boolean got, boolean want) {
        Check.due(what, got, want);
    }

    // 1
    private static void newObject() {
        GlassRoom room = new GlassRoom();
        int[] counts = {0, 0, 0, 0, 0, 0, 0, NONE, 0, 0};
        for (int what = 0; what < counts.length; what++) {
            due("new count " + what, room.count(what), counts[what]);
        }
        due("new fault 0", room.fault(0), 0);
        due("new text 0", room.text(0), NONE);
        due("new text 1", room.text(1), NONE);
        due("new body", Check.bodyThrows(room, 0, 0), true);
        due("new light none", room.light(NONE), true);
        due("new light 0", room.light(0), false);
        due("new move", room.move(0, 1, 1), NONE);
        due("new glass 15", room.glass(15), NONE);
        due("new glass 0", room.glass(0), NONE);
        due("new steps", room.steps(1, 0), NONE);
        due("new undo", room.undo(), NONE);
        due("new image", room.image(0, 0, 0, 0), HIDDEN);
        due("new far", room.far(0, 0, 0, 0), NONE);
        due("new lightOf", room.lightOf(0, 0, 0, 0), HIDDEN);
        due("new near", room.near(0, 0, 0, 0), HIDDEN);
        due("new within", room.within(0, 0, 5), NONE);
        due("new brighter", room.brighter(0, 0), NONE);
        due("new seen", room.seen(0, 0, 0, 0), NONE);
        due("new view", room.view(0, 0, 0), NONE);
        due("new walls", room.walls(0, 0), NONE);
        due("new hits", room.hits(0, 1, 0, 0, 0), HIDDEN);
        due("new round", room.round(1, 0), NONE);
        due("new ways", room.ways(0, 0, 1), NONE);
        due("new hang", room.hang(0, 1, 0, 0), NONE);
        due("new pane", room.pane(0, 0, 0), NONE);
        due("new photo", room.photo(0, 0), NONE);
        due("new fits", room.fits(NONE), NONE);
        due("new keep", room.keep(), NONE);
        due("new back", room.back(), NONE);
        due("two objects are apart", Check.feed(new GlassRoom(), "b") + room.count(6), 1);
    }

    // 2
    private static void feed() {
        GlassRoom room = new GlassRoom();
        due("all bytes 0", room.feed(0, 0, 0, 0, 0), 0);
        due("0 left out", room.feed(0x62007800, 0x31, 0, 0x31000000, 0), 4);
        due("highest first: bx11", room.fault(0), 4);
        due("twenty", room.feed(-1, -1, 0x80808080, 0x01010101, LOW), 21);
        for (int k = 0; k < 6; k++) {
            due("twenty more", room.feed(-1, -1, -1, -1, -1), 41 + 20 * k);
        }
        due("161 are refused", room.feed(-1, -1, -1, -1, -1), NONE);
        due("and nothing came", room.count(6), 141);
        due("160", room.feed(-1, -1, -1, -1, 0xffff00ff), 160);
        due("one more", room.feed(1, 0, 0, 0, 0), NONE);
        due("none more", room.feed(0, 0, 0, 0, 0), 160);
    }

    // 3
    private static void end() {
        GlassRoom room = new GlassRoom();
        Check.feed(room, "bx11y1");
        due("end 7", room.end(7), false);
        due("end -1", room.end(-1), false);
        due("end lowest", room.end(LOW), false);
        due("end highest", room.end(HIGH), false);
        due("refused: all there", room.count(6), 6);
        due("end 6", room.end(6), true);
        due("end 3", room.end(3), true);
        due("bytes", room.count(6), 3);
        due("bx1 is a hall", room.fault(0), NONE);
        due("end 4 now", room.end(4), false);
        due("fed behind it", Check.feed(room, "0"), 4);
        due("bx10", room.fault(0), NONE);
        due("end 0", room.end(0), true);
        due("empty", room.count(6), 0);
        due("end 0 again", room.end(0), true);
    }

    // 4
    private static void hallFaults() {
        Object[] table = {"", 0, "  ", 2, "b", NONE, " b ", NONE, "r", 1, "r ", 2, "r;", 2, "b;", 2, "b; ", 3, "b;;b", 2,
            "B", 0, "b\tx1", 1, "b,", 1, ";b", 0, "r;b", NONE, "b;r", NONE, "r;r", 2, "r;b;r", 4, "b;r;b;r", 6,
            "rw", 2, "rw ", 3, "rw;", 2, "rww", 2, "rw1", 3, "rw1;b", NONE, "rw0;b", 2, "rw00;b", 3, "rw05;b", NONE,
            "rw20;b", NONE, "rw21;b", 3, "rw99;b", 3, "rw210;b", 4, "rw001;b", 4, "rw2 0;b", 4, "rw2w3;b", 3, "rw2h3w4;b", 5,
            "rh1;b", NONE, "rh0;b", 2, "rh20;b", NONE, "rh21;b", 3, "rg0;b", NONE, "rg15;b", NONE, "rg16;b", 3,
            "rt0;b", NONE, "rt99;b", NONE, "rt100;b", 4, "rx1;b", 1, "ry1;b", 1, "ra1;b", 1, "bw1", 1, "bh1", 1, "bg1", 1,
            "bt1", 1, "rt1g2h3w4;ba0y2x1", NONE, "bx0y0", NONE, "bx10", NONE, "bx11", 4, "by8", NONE, "by9", 3,
            "bx20", 4, "bx21", 3, "bx210", 4, "by20", 4, "by21", 3, "bx20;rw20", NONE, "bx20;rw19", 9, "rw19;bx20", 9,
            "by20;rh20", NONE, "by20;rh19;b", 11, "bx11 ", 5, "b;bx11;b", 8, "bx99x", 3, "ba0", NONE, "ba1", NONE, "ba2", 2,
            "ba10", 3, "ba01", NONE, "ba001", 4, "bx1x2", 3, "bx1y1x2", 5, "bx-1", 2, "b x 1 y 2 a 0 ", NONE,
            "b1", 1, "bb", 1, "b;x", 2, "b;b;b;b;b;b", NONE, "b;b;b;b;b;b;b", 12, "b;b;b;b;b;b;r", NONE, "b;b;b;b;b;b;", 12,
            "r;b;b;b;b;b;b;b", 14, "b;b;b;r;b;b;b", NONE, "b;b;b;r;b;b;b;r", 14, "\u00e2", 0, "b\u00e2", 1};
        for (int k = 0; k < table.length; k += 2) {
            faultIs(0, (String) table[k], (Integer) table[k + 1]);
        }
        GlassRoom room = new GlassRoom();
        Check.feed(room, "b");
        due("fault -1", room.fault(-1), -2);
        due("fault 2", room.fault(2), -2);
        due("fault lowest", room.fault(LOW), -2);
        due("the tape stays", room.count(6), 1);
    }

    private static void faultIs(int sort, String text, int fault) {
        GlassRoom room = new GlassRoom();
        Check.feed(room, text);
        due("fault " + sort + " of '" + text + "'", room.fault(sort), fault);
        due("asked twice", room.fault(sort), fault);
        int length = room.count(6);
        boolean taken = room.text(sort) >= 0;
        due("text " + sort + " of '" + text + "'", taken, fault == NONE);
        due("tape behind text of '" + text + "'", room.count(6), taken ? 0 : length);
    }

    private static void lightFaults() {
        Object[] table = {"", 0, " ", 1, "y", 1, "y:", 2, "y ", 2, "x:1", 0, "y1", 1, "y;", 1, "y:a", 2, "y:y", 2, "y:-1", 2,
            "y:5", NONE, " y : 5 ", NONE, "y:1234", NONE, "y:12345", 6, "y:123456", 6, "y:0000", NONE, "y:1 2", 4, "y:1n", 3,
            "y:n", NONE, "y:f", NONE, "y:t", NONE, "y:i", NONE, "y:j", NONE, "y:b", NONE, "y:nn", 3, "y:1+", 4, "y:1+*", 4,
            "y:1**2", 4, "y:1+2-3*4/5", NONE, "y:[1]", NONE, "y:[1", 4, "y:1]", 3, "y:[]", 3, "y:[1)", 4, "y:[n=1]", 4,
            "y:1;", 4, "y:1;y", 5, "y:1;z", 4, "y:1;;", 4, "y:1;y:2", NONE, "y:1;y:2;y:3", NONE, ";", 0,
            "y:n?1", 3, "y:n=1", 5, "y:n=", 4, "y:n=?", 4, "y:n=1?", 6, "y:n=1?2", NONE, "y:n<1?2", NONE, "y:n>1?2", NONE,
            "y:n=1;y:2", 5, "y:n=1=2?1", 5, "y:n==1", 4, "y:n=1?2=3", 7, "y:n=1?2?3", 7, "y:n=1?(n=1)", 6, "y:n=1?!n", 6,
            "y:(n=1)?2", NONE, "y:(n=1)", 7, "y:(n=1)+1", 7, "y:(n=1)=1", 7, "y:(n)", 4, "y:(n", 4, "y:(n=1", 6, "y:()", 3,
            "y:n=1)?1", 5, "y:(n=1]", 6, "y:!n=1?2", NONE, "y:!n?1", 4, "y:!n", 4, "y:!", 3, "y:n!", 3, "y:!(n=1)?2", NONE,
            "y:n=1&f=2?1", NONE, "y:n=1|f=2?1", NONE, "y:n=1&f?1", 7, "y:n=1&?", 6, "y:n&", 3, "y:n=1&(f<2|!t=1)?b", NONE,
            "y:n=!1", 4, "y:n=(1", 4, "y:1+!1", 4, "y:1+(1)", 4, "y:[n]=1?2", NONE, "y:[n+1]*2<[3]?2", NONE, "y:[!n", 3,
            "y:[[[[[[1]]]]]]", NONE, "y:[[[[[[[1]]]]]]]", 8, "y:!!!!!!n=1?1", NONE, "y:!!!!!!!n=1?1", 8,
            "y:((((((n=1))))))?1", NONE, "y:(((((((n=1)))))))?1", 8, "y:(((((([n]=1))))))?1", 8, "y:!!!!!![n]=1?1", 8,
            "y:!!!!!(n=1)?1", NONE, "y:!!!!!([n]=1)?1", 8, "y:!!!!!!n=1&!!!!!!f=1?1", NONE, "y:[[[[[[1]]]]]]+[[[[[[1]]]]]]", NONE,
            "y:((((((n=1)))))&!!!!!n=2|[[[[[n]]]]]=3)?[[[[[[1]]]]]]", NONE, "y:n=1?[[[[[[[1]]]]]]]", 12, "y:\u00e2", 2};
        for (int k = 0; k < table.length; k += 2) {
            faultIs(1, (String) table[k], (Integer) table[k + 1]);
        }
    }

    // 5
    private static void text() {
        GlassRoom room = new GlassRoom();
        Check.feed(room, "rw5h6g7t8;bx2y3a0;b;b");
        due("text -1", room.text(-1), NONE);
        due("text 2", room.text(2), NONE);
        due("text 1 of a hall", room.text(1), NONE);
        due("tape kept", room.count(6), 21);
        due("three bodies", room.text(0), 3);
        due("tape empty", room.count(6), 0);
        int[] counts = {3, 5, 6, 7, 8};
        for (int what = 0; what < counts.length; what++) {
            due("count " + what, room.count(what), counts[what]);
        }
        for (int k = 0; k < 4; k++) {
            due("light " + k, Check.addLight(room, "y:" + k), k);
        }
        due("light 2 holds", room.light(2), true);
        due("a fifth light", Check.addLight(room, "y:4"), NONE);
        due("its tape stays", room.count(6), 3);
        due("it has no fault", room.fault(1), NONE);
        due("the other lights stay", room.lightOf(0, 0, 0, 0), 2);
        room.end(0);
        room.photo(0, 1);
        room.keep();
        room.move(0, 0, 0);
        Check.feed(room, "b;");
        due("refused hall", room.text(0), NONE);
        due("bodies stay", room.count(0), 3);
        due("photos stay", room.count(8), 1);
        due("acts stay", room.count(9), 1);
        due("refused byte away", room.end(1), true);
        due("a new hall", room.text(0), 1);
        due("width anew", room.count(1), 10);
        due("height anew", room.count(2), 8);
        due("glass anew", room.count(3), 15);
        due("takes anew", room.count(4), 10);
        due("photos gone", room.count(8), 0);
        due("acts gone", room.count(9), 0);
        due("undo gone", room.undo(), NONE);
        due("image gone", room.back(), NONE);
        due("lights stay", room.count(5), 4);
        due("which holds stays", room.count(7), 2);
        due("and it shines", room.lightOf(0, 0, 0, 0), 2);
        due("a light without a hall", Check.addLight(new GlassRoom(), "y:n"), 0);
    }

    // 6
    private static void body() {
        GlassRoom room = Check.room("bx2y3a0;b;bx10y8a1");
        int[][] all = {{2, 3, 0}, {1, 1, 1}, {10, 8, 1}};
        for (int body = 0; body < 3; body++) {
            for (int what = 0; what < 3; what++) {
                due("body " + body + " " + what, room.body(body, what), all[body][what]);
            }
        }
        int[][] wrong = {{-1, 0}, {3, 0}, {0, -1}, {0, 3}, {LOW, 0}, {HIGH, 0}, {0, LOW}, {0, HIGH}};
        for (int[] pair : wrong) {
            due("body " + pair[0] + " " + pair[1] + " throws", Check.bodyThrows(room, pair[0], pair[1]), true);
        }
    }

    // 7
    private static void light() {
        GlassRoom room = Check.room(PAIR);
        due("none", room.light(NONE), true);
        due("light 0 too early", room.light(0), false);
        Check.addLight(room, "y:7");
        Check.addLight(room, "y:8");
        due("none holds still", room.count(7), NONE);
        due("light 1", room.light(1), true);
        due("it holds", room.lightOf(0, 0, 0, 0), 8);
        due("light 2", room.light(2), false);
        due("light -2", room.light(-2), false);
        due("lowest", room.light(LOW), false);
        due("highest", room.light(HIGH), false);
        due("1 holds still", room.count(7), 1);
        due("light 0", room.light(0), true);
        due("it holds", room.lightOf(0, 0, 0, 0), 7);
        due("light none", room.light(NONE), true);
        due("bright again", room.lightOf(0, 0, 0, 0), 1000000);
        due("no acts", room.count(9), 0);
    }

    // 8
    private static void move() {
        GlassRoom room = Check.room(PAIR);
        due("to its place", room.move(0, 1, 1), NONE);
        due("left", room.move(0, -1, 1), NONE);
        due("right", room.move(0, 5, 1), NONE);
        due("below", room.move(0, 1, -1), NONE);
        due("above", room.move(0, 1, 4), NONE);
        due("no body", room.move(2, 1, 1), NONE);
        due("no body -1", room.move(-1, 1, 1), NONE);
        due("far off", room.move(0, LOW, HIGH), NONE);
        due("no acts", room.count(9), 0);
        due("to a corner", room.move(0, 4, 3), 1);
        due("x", room.body(0, 0), 4);
        due("y", room.body(0, 1), 3);
        due("to the other one", room.move(0, 3, 2), 2);
        due("x alone", room.move(0, 0, 2), 3);
        due("y alone", room.move(0, 0, 0), 4);
        due("other one stays", room.body(1, 0), 3);
        for (int k = 5; k <= 50; k++) {
            due("move " + k, room.move(1, k % 2, 0), Math.min(40, k));
        }
    }

    // 9
    private static void glass() {
        GlassRoom room = Check.room("rg5;b");
        due("it is so", room.glass(5), NONE);
        due("-1", room.glass(-1), NONE);
        due("16", room.glass(16), NONE);
        due("lowest", room.glass(LOW), NONE);
        due("0", room.glass(0), 1);
        due("it is", room.count(3), 0);
        due("0 again", room.glass(0), NONE);
        due("15", room.glass(15), 2);
        due("it is", room.count(3), 15);
    }

    // 10
    private static void steps() {
        GlassRoom room = Check.room("rw4h3;b;bx0y0;bx2y3");
        due("0", room.steps(0, 1), NONE);
        due("41", room.steps(41, 1), NONE);
        due("-1", room.steps(-1, 1), NONE);
        due("highest", room.steps(HIGH, 1), NONE);
        due("no acts", room.count(9), 0);
        due("four", room.steps(4, 1), 4);
        placesAre(room, STEPS_OF_SEED_1);
        due("forty", room.steps(40, -3), 40);
        GlassRoom small = Check.room("rw1h1;bx0y0");
        due("steps without a move are acts", small.steps(2, -7), 2);
        placesAre(small, new int[] {0, 0});
        GlassRoom parts = Check.room("rw4h3;b;bx0y0;bx2y3");
        parts.steps(1, 1);
        parts.steps(3, 1);
        placesAre(parts, PARTS_OF_SEED_1);
    }

    private static void placesAre(GlassRoom room, int[] places) {
        for (int body = 0; 2 * body < places.length; body++) {
            due("x of " + body, room.body(body, 0), places[2 * body]);
            due("y of " + body, room.body(body, 1), places[2 * body + 1]);
        }
    }

    // 11
    private static void undo() {
        GlassRoom room = Check.room(PAIR);
        due("none", room.undo(), NONE);
        room.move(0, 2, 3);
        room.glass(6);
        room.steps(2, 99);
        int x = room.body(0, 0);
        due("acts", room.count(9), 4);
        due("a step", room.undo(), 3);
        due("a step", room.undo(), 2);
        due("x as moved", room.body(0, 0), 2);
        due("y as moved", room.body(0, 1), 3);
        due("other one", room.body(1, 0) * 10 + room.body(1, 1), 32);
        due("glass as changed", room.count(3), 6);
        due("the glass", room.undo(), 1);
        due("glass", room.count(3), 15);
        due("the move", room.undo(), 0);
        due("x", room.body(0, 0), 1);
        due("y", room.body(0, 1), 1);
        due("none left", room.undo(), NONE);
        due("the steps again", room.move(0, 2, 3) + room.glass(6) + room.steps(2, 99), 1 + 2 + 4);
        due("as before", room.body(0, 0), x);
        GlassRoom many = Check.room("rw20h20;bx0y0");
        for (int k = 1; k <= 45; k++) {
            many.move(0, k % 21, k / 21);
        }
        for (int k = 39; k >= 0; k--) {
            due("undo to " + k, many.undo(), k);
        }
        due("older ones are forgotten", many.undo(), NONE);
        due("the fifth move stands", many.body(0, 0), 5);
    }

    // 12
    private static void image() {
        GlassRoom room = Check.room(PAIR);
        int[][] places = {{1, -2, 0, -5, 2}, {1, 3, 0, 13, 2}, {1, 0, 2, 3, 8}, {1, 0, -3, 3, -8}, {0, 10, -10, 41, -29},
            {0, -9, 9, -33, 29}, {0, 0, 0, 1, 1}};
        for (int[] p : places) {
            due("x", room.image(p[0], p[1], p[2], 0), p[3]);
            due("y", room.image(p[0], p[1], p[2], 1), p[4]);
        }
        due("arm", room.image(0, 0, 0, 2), 1);
        due("arm turned", room.image(0, 0, -1, 2), 0);
        due("arm turned twice", room.image(0, -1, -1, 2), 1);
        due("other arm", room.image(1, 0, 0, 2), 0);
        due("other arm turned", room.image(1, 2, -3, 2), 1);
        due("bright", room.image(0, 0, 0, 3), 1000000);
        due("bright 3", room.image(0, -2, 1, 3), 729000);
        due("bright 20, cut each time", room.image(0, 10, -10, 3), 121574);
        due("cut", Check.room("rt33;b").image(0, 4, 1, 3), 135012);
        due("takes 99", Check.room("rt99;b").image(0, 3, 0, 3), 1);
        due("takes 99", Check.room("rt99;b").image(0, 4, 0, 3), 0);
        due("takes 0", Check.room("rt0;b").image(0, 10, 10, 3), 1000000);
        int[][] wrong = {{2, 0, 0, 0}, {-1, 0, 0, 0}, {0, 11, 0, 0}, {0, -11, 0, 0}, {0, 0, 11, 0}, {0, 0, -11, 0},
            {0, 0, 0, -1}, {0, 0, 0, 5}, {0, LOW, 0, 0}, {0, 0, LOW, 0}, {HIGH, 0, 0, 0}};
        for (int[] w : wrong) {
            due("no image", room.image(w[0], w[1], w[2], w[3]), HIDDEN);
        }
        thereByGlass(room);
    }

    private static void thereByGlass(GlassRoom room) {
        for (int walls = 0; walls <= 15; walls++) {
            room.glass(walls);
            for (int cell = -10; cell <= 10; cell++) {
                boolean side = cell == 0 || (walls & 3) == 3 || cell == -1 && (walls & 1) != 0 || cell == 1 && (walls & 2) != 0;
                boolean up = cell == 0 || (walls & 12) == 12 || cell == -1 && (walls & 4) != 0 || cell == 1 && (walls & 8) != 0;
                due("there " + walls + " i " + cell, room.image(0, cell, 0, 4), side ? 1 : 0);
                due("there " + walls + " j " + cell, room.image(0, 0, cell, 4), up ? 1 : 0);
                due("there " + walls + " both " + cell, room.image(1, cell, cell, 4), side && up ? 1 : 0);
            }
        }
        room.glass(0);
        due("where, though not there", room.image(0, 10, 0, 0), 41);
    }

    // 13
    private static void far() {
        GlassRoom room = Check.room(PAIR);
        due("itself", room.far(1, 0, 0, 1), 0);
        due("the other", room.far(1, 0, 0, 0), 5);
        due("back", room.far(0, 0, 0, 1), 5);
        due("image", room.far(1, -2, 2, 0), 85);
        due("far image", room.far(0, 10, 10, 1), 2285);
        room.glass(0);
        due("not there, but far", room.far(0, 10, 10, 1), 2285);
        int[][] wrong = {{2, 0, 0, 0}, {-1, 0, 0, 0}, {0, 11, 0, 0}, {0, -11, 0, 0}, {0, 0, 11, 0}, {0, 0, -11, 0},
            {0, 0, 0, -1}, {0, 0, 0, 2}, {0, LOW, HIGH, 0}};
        for (int[] w : wrong) {
            due("far", room.far(w[0], w[1], w[2], w[3]), NONE);
        }
        due("widest", Check.room("rw20h20;bx0y0;bx20y20").far(1, 10, 10, 0), 2 * 220 * 220);
    }

    // 14
    private static void lightOf() {
        // Of body 1's image 2, -1 from body 0: n 3, f 109, t 1, i 2, j -1, b 729000.
        Object[] table = {"y:n", 3, "y:f", 109, "y:t", 1, "y:i", 2, "y:j", -1, "y:b", 729000, "y:9999", 9999, "y:007", 7,
            "y:f-n-1", 105, "y:f-[n-1]", 107, "y:2+3*4", 14, "y:2*3+4", 10, "y:[2+3]*4", 20, "y:7/2*2", 6, "y:2*7/2", 7,
            "y:j*7/2", -3, "y:1-8/3", -1, "y:[1-8]/3", -2, "y:7/[0-2]", -3, "y:5/0", 0, "y:5/[n-3]+1", 1, "y:10-2-3+4", 9,
            "y:b*b", 1000000, "y:0-b*b", -1000000, "y:b+b-b", 271000, "y:b*j*9", -1000000, "y:9999*9999/9999", 100,
            "y:0-b-b+b", -271000, "y:2*[3+[4-[5-6]]]", 16, "y: b / 1000 + f * 2 ", 947,
            "y:n=3?1;y:2", 1, "y:n=4?1;y:2", 2, "y:n=4?1", 0, "y:n<4?1", 1, "y:n<3?1", 0, "y:n>2?1", 1, "y:n>3?1", 0,
            "y:!n=3?1;y:2", 2, "y:!!n=3?1;y:2", 1, "y:n=3|n=4&n=5?1;y:2", 1, "y:(n=3|n=4)&n=5?1;y:2", 2,
            "y:n=4&n=4|n=3?1;y:2", 1, "y:n=4&(n=4|n=3)?1;y:2", 2, "y:!n=4&n=3?1;y:2", 1, "y:!n=3|n=3?1;y:2", 1,
            "y:!n=4&n=4?1;y:2", 2, "y:!(n=3|n=3)?1;y:2", 2, "y:n+1=2*2?[n-1]*5;y:0", 10, "y:n=3&n=3&n=4?1;y:2", 2,
            "y:n=4|n=4|n=3?1;y:2", 1, "y:n=4?1;y:n=3?2;y:3", 2, "y:n=4?1;y:n=5?2", 0, "y:5;y:6", 5, "y:n=4?1;y:n=5?2;y:3", 3,
            "y:n=3|n=3?1;y:2", 1, "y:j<0?1;y:2", 1, "y:b*b>9999*100?1;y:2", 1, "y:((n=3)&(f>100))?f-100", 9};
        for (int k = 0; k < table.length; k += 2) {
            GlassRoom room = Check.room(PAIR);
            due("made " + table[k], Check.addLight(room, (String) table[k]), 0);
            room.light(0);
            due("light " + table[k], room.lightOf(1, 2, -1, 0), (Integer) table[k + 1]);
        }
        GlassRoom room = Check.room(PAIR);
        due("bright without a light", room.lightOf(1, 2, -1, 0), 729000);
        room.glass(0);
        due("though not there", room.lightOf(1, 2, -1, 0), 729000);
        Check.addLight(room, "y:f");
        room.light(0);
        due("though not there", room.lightOf(1, 2, -1, 0), 109);
        due("not turned", room.lightOf(1, 0, 0, 0), 5);
        int[][] wrong = {{2, 0, 0, 0}, {-1, 0, 0, 0}, {0, 11, 0, 0}, {0, -11, 0, 0}, {0, 0, 11, 0}, {0, 0, -11, 0},
            {0, 0, 0, -1}, {0, 0, 0, 2}};
        for (int[] w : wrong) {
            due("lightOf", room.lightOf(w[0], w[1], w[2], w[3]), HIDDEN);
        }
    }

    // 15
    private static void near() {
        GlassRoom room = Check.room(PAIR);
        int[][] rows = {{0, 0, 0, 0}, {1, 0, 1, 4}, {2, 1, 0, 4}, {3, 1, 1, 8}, {4, 0, -1, 16}, {437, -10, -10, 2500},
            {438, -10, 10, 2500}, {439, 10, -10, 2500}, {440, 10, 10, 2500}};
        for (int[] r : rows) {
            for (int what = 0; what < 3; what++) {
                due("near " + r[0] + " " + what, room.near(1, 1, r[0], what), r[what + 1]);
            }
        }
        int[][] wrong = {{2, 0, 0, 0}, {-1, 0, 0, 0}, {0, 2, 0, 0}, {0, -1, 0, 0}, {0, 0, -1, 0}, {0, 0, 441, 0},
            {0, 0, 0, 3}, {0, 0, 0, -1}, {0, 0, HIGH, 0}, {0, 0, LOW, 0}};
        for (int[] w : wrong) {
            due("near", room.near(w[0], w[1], w[2], w[3]), HIDDEN);
        }
        room.glass(2);
        due("two there", room.near(1, 1, 1, 0), 1);
        due("no third", room.near(1, 1, 2, 0), HIDDEN);
        room.glass(0);
        due("itself alone", room.near(0, 1, 0, 2), 5);
        due("no other", room.near(0, 1, 1, 2), HIDDEN);
        room.glass(7);
        due("21 times 2", room.near(0, 1, 41, 2) >= 0, true);
        due("no more", room.near(0, 1, 42, 2), HIDDEN);
    }

    // 16
    private static void within() {
        GlassRoom room = Check.room(PAIR);
        due("0", room.within(1, 1, 0), 1);
        due("1", room.within(1, 1, 1), 1);
        due("2", room.within(1, 1, 2), 3);
        due("3", room.within(1, 1, 3), 4);
        due("50 is the square root of 2500", room.within(1, 1, 50), 441);
        due("49", room.within(1, 1, 49), 437);
        due("99", room.within(1, 1, 99), 441);
        room.glass(0);
        due("there alone", room.within(1, 0, 99), 1);
        due("not so near", room.within(1, 0, 2), 0);
        int[][] wrong = {{2, 0, 0}, {-1, 0, 0}, {0, 2, 0}, {0, -1, 0}, {0, 0, -1}, {0, 0, 100}, {0, 0, HIGH}, {0, 0, LOW}};
        for (int[] w : wrong) {
            due("within", room.within(w[0], w[1], w[2]), NONE);
        }
    }

    // 17
    private static void brighter() {
        GlassRoom room = Check.room(PAIR);
        due("all", room.brighter(0, 0), 882);
        due("all", room.brighter(0, LOW), 882);
        due("none", room.brighter(0, 1000001), 0);
        due("two glasses", room.brighter(1, 810000), 26);
        due("a little more", room.brighter(1, 810001), 10);
        Check.addLight(room, "y:n");
        Check.addLight(room, "y:f=0?1;y:0-1");
        room.light(0);
        due("20 glasses", room.brighter(0, 20), 8);
        due("19 glasses", room.brighter(0, 19), 24);
        room.glass(3);
        due("10 glasses", room.brighter(0, 10), 4);
        room.light(1);
        due("where the eye stands", room.brighter(0, 1), 1);
        due("all", room.brighter(0, -1), 42);
        due("no eye", room.brighter(2, 0), NONE);
        due("no eye", room.brighter(-1, 0), NONE);
    }

    // 18
    private static void seen() {
        GlassRoom room = Check.room("rw10h8g0;bx0y0;bx2y1;bx4y2;bx3y1");
        due("behind another", room.seen(2, 0, 0, 0), 0);
        due("before it", room.seen(1, 0, 0, 0), 1);
        due("beside it", room.seen(3, 0, 0, 0), 1);
        due("back behind another", room.seen(0, 0, 0, 2), 0);
        due("not there", room.seen(1, 1, 0, 0), 0);
        GlassRoom left = Check.room("rw10h8g1;bx1y1;bx3y1;bx2y1");
        due("behind an image", left.seen(1, -1, 0, 0), 0);
        due("behind the body", left.seen(1, 0, 0, 0), 0);
        left.move(2, 2, 2);
        due("own images hide nothing", left.seen(1, -1, 0, 0), 1);
        due("free", left.seen(1, 0, 0, 0), 1);
        due("oneself", left.seen(0, 0, 0, 0), 1);
        due("oneself in the glass", left.seen(0, -1, 0, 0), 1);
        left.move(2, 0, 1);
        due("another between oneself and the glass", left.seen(0, -1, 0, 0), 0);
        left.glass(0);
        due("without glass no image", left.seen(0, -1, 0, 0), 0);
        GlassRoom ends = Check.room("rw10h8g0;bx1y1;bx3y1;bx3y1;bx1y1");
        due("at the ends nobody hides", ends.seen(1, 0, 0, 0), 1);
        ends.move(2, 1, 5);
        ends.move(1, 1, 7);
        due("straight up", ends.seen(1, 0, 0, 0), 0);
        due("straight up, nearer", ends.seen(2, 0, 0, 0), 1);
        ends.move(2, 1, 7);
        due("straight up, free", ends.seen(1, 0, 0, 0), 1);
        GlassRoom far = Check.room("rw2h2;bx1y1;bx0y1;bx1y0");
        due("far image behind images", far.seen(0, 10, 0, 0), 0);
        due("far image, aslant", far.seen(1, 10, 10, 0), 1);
        int[][] wrong = {{4, 0, 0, 0}, {-1, 0, 0, 0}, {0, 11, 0, 0}, {0, -11, 0, 0}, {0, 0, 11, 0}, {0, 0, -11, 0},
            {0, 0, 0, -1}, {0, 0, 0, 4}};
        for (int[] w : wrong) {
            due("seen", room.seen(w[0], w[1], w[2], w[3]), NONE);
        }
    }

    // 19
    private static void view() {
        GlassRoom room = Check.room(PAIR);
        due("0", room.view(1, 0, 0), 1);
        due("2", room.view(1, 0, 2), 13);
        due("6", room.view(1, 0, 6), 85);
        due("oneself", room.view(0, 0, 1), 5);
        room.glass(3);
        due("side by side", room.view(1, 0, 6), 13);
        room.glass(1);
        due("left", room.view(1, 0, 6), 2);
        room.glass(9);
        due("left and above", room.view(1, 0, 6), 4);
        due("left and above, one glass", room.view(1, 0, 1), 3);
        room.glass(0);
        due("without", room.view(1, 0, 6), 1);
        GlassRoom row = Check.room("rw10h8g3;bx0y0;bx2y0;bx4y0");
        due("always behind", row.view(2, 0, 6), 0);
        due("the next one left and right", row.view(1, 0, 6), 2);
        int[][] wrong = {{2, 0, 0}, {-1, 0, 0}, {0, 2, 0}, {0, -1, 0}, {0, 0, -1}, {0, 0, 7}, {0, 0, HIGH}};
        for (int[] w : wrong) {
            due("view", room.view(w[0], w[1], w[2]), NONE);
        }
    }

    // 20
    private static void walls() {
        GlassRoom room = Check.room(PAIR);
        room.glass(4);
        due("0 times", room.walls(0, 0), 0);
        due("once", room.walls(0, 1), 0);
        due("twice", room.walls(0, 2), 1);
        due("three times: two facing walls", room.walls(0, 3), 3);
        due("five times", room.walls(0, 5), 3);
        due("six times: five, and above or below", room.walls(0, 6), 7);
        due("nine times", room.walls(0, 9), 15);
        due("thirteen times", room.walls(0, 13), 15);
        due("fourteen times", room.walls(0, 14), NONE);
        due("25 times", room.walls(0, 25), NONE);
        due("glass stays", room.count(3), 4);
        due("no acts but one", room.count(9), 1);
        due("-1", room.walls(0, -1), NONE);
        due("26", room.walls(0, 26), NONE);
        due("no eye", room.walls(2, 1), NONE);
        due("no eye", room.walls(-1, 1), NONE);
        due("nobody else", Check.room("b").walls(0, 25), 0);
        due("one hides the other but above", Check.room("bx0y0;bx2y0;bx4y0").walls(0, 1), 8);
    }

    // 21
    private static void hits() {
        GlassRoom room = Check.room(PAIR);
        int[][] rows = {{1, -2, -1, 0, 0, 0, 0}, {0, 2, 1, 1, 0, 0, 0}, {0, 0, 1, 0, 1, 0, 1}, {0, 0, -1, 0, 1, 0, -1},
            {0, 1, 0, 0, 1, 1, 0}, {0, -3, 0, 0, 1, -1, 0}, {0, 4, 2, 1, 0, 0, 0}};
        room.glass(0);
        for (int[] r : rows) {
            for (int what = 0; what < 3; what++) {
                due("hits " + what, room.hits(r[0], r[1], r[2], r[3], what), r[4 + what]);
            }
        }
        due("it hits none", room.hits(0, 0, 1, 1, 0), HIDDEN);
        due("too far", Check.room("rw20h20;b;bx2y1").hits(0, 9, 8, 1, 0), HIDDEN);
        GlassRoom wall = Check.room("rw4h3;bx0y1;bx2y1");
        due("fewest at one place", wall.hits(1, -1, 0, 0, 0), 0);
        due("fewest at one place", wall.hits(1, 1, 0, 0, 0), 1);
        due("i", wall.hits(1, 1, 0, 0, 1), 1);
        due("not where it begins", wall.hits(0, 1, 0, 0, 1), 1);
        due("not where it begins, left", wall.hits(0, -1, 0, 0, 1), -2);
        int[][] wrong = {{2, 1, 0, 0, 0}, {-1, 1, 0, 0, 0}, {0, 10, 0, 0, 0}, {0, -10, 0, 0, 0}, {0, 0, 10, 0, 0},
            {0, 0, -10, 0, 0}, {0, 0, 0, 0, 0}, {0, 1, 0, 2, 0}, {0, 1, 0, -1, 0}, {0, 1, 0, 0, -1}, {0, 1, 0, 0, 3},
            {0, LOW, HIGH, 0, 0}};
        for (int[] w : wrong) {
            due("hits", room.hits(w[0], w[1], w[2], w[3], w[4]), HIDDEN);
        }
    }

    // 22
    private static void round() {
        GlassRoom room = Check.room(PAIR);
        int[][] rows = {{1, 1, 14}, {-1, 1, 14}, {1, -1, 14}, {3, 3, 14}, {0, 1, 2}, {0, -9, 2}, {9, 0, 2}, {-3, 2, 34}, {2, 1, 10},
            {4, 3, 4}};
        for (int[] r : rows) {
            due("round " + r[0] + " " + r[1], room.round(r[0], r[1]), r[2]);
        }
        due("usual room", Check.room("b").round(1, 1), 18);
        int[][] wrong = {{0, 0}, {10, 1}, {-10, 1}, {1, 10}, {1, -10}, {LOW, 1}, {1, LOW}};
        for (int[] w : wrong) {
            due("round", room.round(w[0], w[1]), NONE);
        }
    }

    // 23
    private static void ways() {
        GlassRoom room = Check.room(PAIR);
        room.glass(0);
        due("0", room.ways(0, 1, 0), 1);
        due("0 to itself", room.ways(0, 0, 0), 0);
        due("1", room.ways(0, 1, 1), 4);
        due("2", room.ways(0, 1, 2), 8);
        due("10", room.ways(0, 1, 10), 40);
        GlassRoom wall = Check.room("rw4h3;bx0y1;bx2y1;bx0y1;bx0y0");
        due("from elsewhere", wall.ways(1, 0, 1), 4);
        due("not where it begins", wall.ways(0, 0, 1), 3);
        due("not where it begins, another one there", wall.ways(2, 0, 0), 0);
        due("two cushions", wall.ways(1, 0, 2), 8);
        due("corner: unlike places", wall.ways(1, 3, 2), 6);
        due("corner: but where it begins", wall.ways(3, 3, 2), 5);
        int[][] wrong = {{2, 0, 0}, {-1, 0, 0}, {0, 2, 0}, {0, -1, 0}, {0, 0, -1}, {0, 0, 11}, {0, 0, HIGH}};
        for (int[] w : wrong) {
            due("ways", room.ways(w[0], w[1], w[2]), NONE);
        }
    }

    // 24
    private static void hang() {
        GlassRoom room = Check.room(PAIR);
        int[][] rows = {{0, 5, 4}, {1, 7, 4}, {2, 5, 3}, {3, 7, 3}};
        for (int[] r : rows) {
            due("above " + r[0], room.hang(0, 1, r[0], 0), r[1]);
            due("below " + r[0], room.hang(0, 1, r[0], 1), r[2]);
            due("the other way " + r[0], room.hang(1, 0, r[0], 0), r[1]);
        }
        room.glass(0);
        due("without glass too", room.hang(0, 1, 0, 0), 5);
        GlassRoom wall = Check.room("rw4h3;bx0y1;bx2y2;bx0y2;bx0y1;bx3y0;bx1y0");
        due("eye on the wall", wall.hang(0, 1, 0, 0), 1);
        due("eye on the wall", wall.hang(0, 1, 0, 1), 1);
        due("body on the wall", wall.hang(1, 0, 0, 0), 1);
        due("both on the wall", wall.hang(0, 2, 0, 0), NONE);
        due("both on the wall", wall.hang(0, 2, 0, 1), NONE);
        due("the wall across", wall.hang(0, 2, 1, 0), 3);
        due("the wall across", wall.hang(0, 2, 1, 1), 2);
        due("two at one place", wall.hang(0, 3, 1, 0), 1);
        due("at 0", wall.hang(4, 5, 0, 0), 0);
        due("of 1", wall.hang(4, 5, 0, 1), 1);
        due("both below", wall.hang(4, 5, 2, 0), NONE);
        int[][] wrong = {{0, 0, 0, 0}, {2, 0, 0, 0}, {-1, 0, 0, 0}, {0, 2, 0, 0}, {0, -1, 0, 0}, {0, 1, -1, 0}, {0, 1, 4, 0},
            {0, 1, 0, -1}, {0, 1, 0, 2}, {0, 1, HIGH, 0}};
        for (int[] w : wrong) {
            due("hang", room.hang(w[0], w[1], w[2], w[3]), NONE);
        }
    }

    // 25
    private static void pane() {
        GlassRoom room = Check.room("bx2y2;bx4y5;bx2y8");
        due("left", room.pane(0, 0, 0), 2);
        due("left", room.pane(0, 0, 1), 1);
        due("right", room.pane(0, 1, 0), 9);
        due("right", room.pane(0, 1, 1), 7);
        GlassRoom wall = Check.room("bx0y2;bx0y5;bx3y3");
        due("one alone", wall.pane(0, 0, 0), 0);
        due("one alone", wall.pane(0, 0, 1), 1);
        wall.move(2, 0, 7);
        due("none", wall.pane(0, 0, 0), NONE);
        due("none", wall.pane(0, 0, 1), NONE);
        due("nobody else", Check.room("b").pane(0, 0, 0), NONE);
        int[][] wrong = {{3, 0, 0}, {-1, 0, 0}, {0, -1, 0}, {0, 4, 0}, {0, 0, -1}, {0, 0, 2}};
        for (int[] w : wrong) {
            due("pane", room.pane(w[0], w[1], w[2]), NONE);
        }
    }

    // 26
    private static void hinge() {
        GlassRoom room = new GlassRoom();
        int[][] rows = {{60, 30, 5, 3}, {90, 45, 3, 2}, {90, 1, 3, 2}, {120, 60, 2, 2}, {180, 90, 1, 1}, {180, 1, 1, 1},
            {50, 25, 8, 4}, {2, 1, 179, 90}};
        for (int[] r : rows) {
            due("hinge " + r[0] + " " + r[1], room.hinge(r[0], r[1], 0), r[2]);
            due("turned " + r[0] + " " + r[1], room.hinge(r[0], r[1], 1), r[3]);
        }
        int[][] wrong = {{0, 0, 0}, {1, 1, 0}, {181, 90, 0}, {90, 0, 0}, {90, 90, 0}, {90, -1, 0}, {90, 45, -1}, {90, 45, 2},
            {LOW, LOW, 0}, {HIGH, 1, 0}, {90, LOW, 0}};
        for (int[] w : wrong) {
            due("hinge", room.hinge(w[0], w[1], w[2]), NONE);
        }
    }

    // 27
    private static void angles() {
        GlassRoom room = new GlassRoom();
        for (int many = 0; many <= 200; many++) {
            int found = 0;
            for (int a = 1; a <= 180; a++) {
                boolean shown = false;
                for (int p = 1; p < a && !shown; p++) {
                    shown = room.hinge(a, p, 0) == many;
                }
                if (shown) {
                    due("angles " + many + " " + found, room.angles(many, found), a);
                    found++;
                }
            }
            due("angles " + many, room.angles(many, NONE), found);
            due("no more", room.angles(many, found), NONE);
            due("i -2", room.angles(many, -2), NONE);
        }
        due("from 180 one is seen", room.angles(1, 0), 180);
        due("the narrowest", room.angles(179, 0), 2);
        due("so many never", room.angles(HIGH, NONE), 0);
        due("so few never", room.angles(LOW, NONE), 0);
        due("no first", room.angles(LOW, 0), NONE);
        due("i highest", room.angles(5, HIGH), NONE);
    }

    // 28
    private static void beads() {
        GlassRoom room = new GlassRoom();
        int[][] rows = {{1, 1, 1}, {1, 4, 4}, {2, 2, 3}, {3, 2, 6}, {4, 2, 10}, {2, 3, 6}, {12, 1, 1}, {12, 4, 8390656}, {11, 2, 1056}};
        for (int[] r : rows) {
            due("beads " + r[0] + " " + r[1], room.beads(r[0], r[1]), r[2]);
        }
        int[][] wrong = {{0, 1}, {13, 1}, {1, 0}, {1, 5}, {-1, 1}, {LOW, 1}, {1, HIGH}};
        for (int[] w : wrong) {
            due("beads", room.beads(w[0], w[1]), NONE);
        }
    }

    // 29
    private static void photo() {
        GlassRoom room = Check.room(PAIR);
        due("no eye", room.photo(2, 1), NONE);
        due("no eye", room.photo(-1, 1), NONE);
        due("-1", room.photo(0, -1), NONE);
        due("100000", room.photo(0, 100000), NONE);
        due("highest", room.photo(0, HIGH), NONE);
        due("none came", room.count(8), 0);
        for (int k = 1; k <= 12; k++) {
            due("photo " + k, room.photo(k % 2, k % 3 * 99999 / 2), k);
        }
        due("a thirteenth", room.photo(0, 1), NONE);
        due("twelve", room.count(8), 12);
        due("no act", room.count(9), 0);
    }

    // 30
    private static void fits() {
        GlassRoom room = Check.room("rw4h3g0;b;bx3y2");
        due("without photos everywhere", room.fits(NONE), 20);
        due("first", room.fits(0), 0);
        due("fifth", room.fits(4), 100);
        due("last", room.fits(19), 403);
        due("no more", room.fits(20), NONE);
        room.photo(0, 5);
        int[] places = {3, 203, 300, 302};
        due("many", room.fits(NONE), 4);
        for (int k = 0; k < places.length; k++) {
            due("fits " + k, room.fits(k), places[k]);
        }
        due("no more", room.fits(4), NONE);
        due("-2", room.fits(-2), NONE);
        due("highest", room.fits(HIGH), NONE);
        room.move(0, 0, 0);
        due("by the place of the eye now", room.fits(NONE), 2);
        due("by the place of the eye now", room.fits(0), 102);
        due("by the place of the eye now", room.fits(1), 201);
        room.undo();
        room.glass(15);
        due("by the glass now", room.fits(NONE), 8);
        room.photo(1, 0);
        due("both", room.fits(NONE), 1);
        due("both", room.fits(0), 302);
        room.photo(1, 99999);
        due("nowhere", room.fits(NONE), 0);
        due("nowhere", room.fits(0), NONE);
        GlassRoom far = Check.room("rw4h3;bx0y0");
        far.photo(0, 8 * 8 + 2 * 2);
        due("8 to the side and 2 up, or 2 and 8", far.fits(NONE), 2);
        due("8 to the side and 2 up", far.fits(0), 2);
        due("2 to the side and 8 up", far.fits(1), 202);
        far = Check.room("rw4h3;bx0y0");
        far.photo(0, 144);
        due("three rooms to the side: i is 2 at most", far.fits(NONE), 1);
        due("the far wall of the third room", far.fits(0), 400);
        far = Check.room("rw4h3;bx0y0");
        far.photo(0, 15 * 15 + 1);
        due("15 to the side or up is beyond", far.fits(NONE), 0);
        far = Check.room("rw4h3;bx0y0");
        far.photo(0, 12 * 12 + 9 * 9);
        due("the farthest corner", far.fits(0), 403);
    }

    // 31, 32
    private static void keepAndBack() {
        GlassRoom room = Check.room(PAIR);
        due("no image", room.back(), NONE);
        room.move(0, 2, 2);
        room.glass(3);
        due("keep", room.keep(), 2);
        due("acts stay", room.count(9), 2);
        room.steps(5, 1234567);
        room.glass(0);
        room.photo(0, 1);
        due("back", room.back(), 0);
        due("x", room.body(0, 0), 2);
        due("y", room.body(0, 1), 2);
        due("other one", room.body(1, 0) * 10 + room.body(1, 1), 32);
        due("glass", room.count(3), 3);
        due("no acts", room.count(9), 0);
        due("no undo", room.undo(), NONE);
        due("photos stay", room.count(8), 1);
        due("an act again", room.move(0, 0, 0), 1);
        due("back once more", room.back(), 0);
        due("x", room.body(0, 0), 2);
        room.move(0, 4, 0);
        due("another image", room.keep(), 1);
        room.move(0, 4, 1);
        due("undone", room.undo(), 1);
        room.move(0, 0, 3);
        due("back to that", room.back(), 0);
        due("x", room.body(0, 0), 4);
        due("y", room.body(0, 1), 0);
        Check.feed(room, "b");
        room.text(0);
        due("none of this hall", room.back(), NONE);
        due("a hall's keep", room.keep(), 0);
        due("a hall's back", room.back(), 0);
    }

    // 33
    private static void count() {
        GlassRoom room = Check.room("rw7h6g9t44;b;b;b;b;b;b");
        Check.addLight(room, "y:1");
        Check.addLight(room, "y:2");
        room.light(1);
        room.photo(0, 5);
        room.move(0, 0, 0);
        room.glass(1);
        room.move(0, 0, 1);
        Check.feed(room, "abcdefg");
        int[] all = {6, 7, 6, 1, 44, 2, 7, 1, 1, 3};
        for (int what = 0; what < all.length; what++) {
            due("count " + what, room.count(what), all[what]);
        }
        due("count -1", room.count(-1), HIDDEN);
        due("count 10", room.count(10), HIDDEN);
        due("count lowest", room.count(LOW), HIDDEN);
        due("NONE", GlassRoom.NONE, -1);
        due("HIDDEN", GlassRoom.HIDDEN, -100000000);
    }
}
