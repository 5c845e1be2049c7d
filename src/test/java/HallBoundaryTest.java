/** The tape, and the boundaries of a HALL's text (promises 1 to 6, and 'Terms' up to '==== 2.'), sentence by sentence. */
public final class HallBoundaryTest {
    private static final int NONE = GlassRoom.NONE;
    private static final String DIGITS = "0123456789";

    private HallBoundaryTest() {
    }

    public static void main(String[] args) {
        feedTakesUpTo160();
        feedOrder();
        endsOfTheTape();
        sorts();
        clauses();
        oneRoom();
        oneToSixBodies();
        anyOrder();
        items();
        eachLetterOnce();
        digits();
        boundsOfItems();
        whatGoesOn();
        blanks();
        endsTooEarly();
        bodiesInTheRoom();
        whereTheFaultLies();
        longTexts();
        newHall();
        bodyOfAHall();
        Check.finish("HallBoundaryTest");
    }

    private static void due(String what, long got, long want) {
        Check.due(what, got, want);
    }

    // ---- the tape

    private static void feedTakesUpTo160() {
        Check.by("NONE: more than 160.");
        GlassRoom room = new GlassRoom();
        for (int k = 1; k <= 8; k++) {
            due("twenty bytes, time " + k, room.feed(-1, -1, -1, -1, -1), 20 * k);
        }
        due("none more", room.feed(0, 0, 0, 0, 0), 160);
        due("a 161st, in the highest byte", room.feed(0x62000000, 0, 0, 0, 0), NONE);
        due("a 161st, in the lowest byte", room.feed(0, 0, 0, 0, 0x62), NONE);
        due("twenty more", room.feed(-1, -1, -1, -1, -1), NONE);
        due("bytes", room.count(6), 160);
        room.end(159);
        due("two more than 159", room.feed(0x6262, 0, 0, 0, 0), NONE);
        due("two more than 159, told apart", room.feed(0x62, 0, 0, 0, 0x62), NONE);
        due("bytes", room.count(6), 159);
        due("one more than 159", room.feed(0, 0, 0x62, 0, 0), 160);
        room.end(141);
        due("twenty more than 141", room.feed(-1, -1, -1, -1, -1), NONE);
        due("nineteen more than 141", room.feed(-1, -1, -1, -1, 0x00ffffff), 160);
        room.end(140);
        due("twenty more than 140", room.feed(-1, -1, -1, -1, -1), 160);
        for (int place = 0; place < 20; place++) {
            for (int sign : new int[] {1, 2, 64, 127, 128, 255}) {
                due("a 160th byte of " + sign + " at " + place, feedOne(159, place, sign), 160);
                due("a 161st byte of " + sign + " at " + place, feedOne(160, place, sign), NONE);
            }
        }
        GlassRoom hall = new GlassRoom();
        Check.feed(hall, "b" + " ".repeat(158));
        due("159 bytes", hall.count(6), 159);
        due("two refused bytes, the first of which would fit", hall.feed(0x20780000, 0, 0, 0, 0), NONE);
        due("neither came", hall.fault(0), NONE);
        due("neither came", hall.count(6), 159);
    }

    /** One byte more, at one of the twenty places, than so many. */
    private static int feedOne(int many, int place, int sign) {
        GlassRoom room = new GlassRoom();
        Check.feed(room, "b".repeat(many));
        int[] five = new int[5];
        five[place / 4] = sign << 24 - place % 4 * 8;
        return room.feed(five[0], five[1], five[2], five[3], five[4]);
    }

    private static void feedOrder() {
        Check.by("(of each number the highest first; bytes of 0 are left out): how many it has.");
        GlassRoom room = new GlassRoom();
        due("bx3y, 2a0;, b, none, none", room.feed(0x62783379, 0x3261303b, 0x62000000, 0, 0), 9);
        due("two bodies", room.text(0), 2);
        due("x", room.body(0, 0), 3);
        due("y", room.body(0, 1), 2);
        due("arm", room.body(0, 2), 0);
        for (int gaps = 0; gaps < 32; gaps++) {
            GlassRoom gapped = new GlassRoom();
            int[] five = new int[5];
            int at = 0;
            // The signs of bx4 come at any three of the twenty places.
            for (char sign : "bx4".toCharArray()) {
                at += 1 + (gaps + sign) % 5;
                five[at / 4] |= sign << 24 - at % 4 * 8;
            }
            due("three bytes", gapped.feed(five[0], five[1], five[2], five[3], five[4]), 3);
            due("one body", gapped.text(0), 1);
            due("x", gapped.body(0, 0), 4);
        }
        due("bytes above 127 are bytes too", new GlassRoom().feed(0x80ff0081, 0, 0, 0, 0x80), 4);
        due("all twenty are 0", new GlassRoom().feed(0, 0, 0, 0, 0), 0);
    }

    private static void endsOfTheTape() {
        Check.by("The TAPE has its first n bytes alone. False: n.");
        GlassRoom room = new GlassRoom();
        Check.due("0 of none", room.end(0), true);
        Check.due("1 of none", room.end(1), false);
        Check.due("-1 of none", room.end(-1), false);
        Check.feed(room, "bx1y2");
        Check.due("-1", room.end(-1), false);
        Check.due("6 of 5", room.end(6), false);
        Check.due("lowest", room.end(Check.LOW), false);
        Check.due("highest", room.end(Check.HIGH), false);
        due("all there", room.count(6), 5);
        Check.due("5 of 5", room.end(5), true);
        due("all there", room.count(6), 5);
        Check.due("3 of 5", room.end(3), true);
        due("three", room.count(6), 3);
        Check.due("what is gone is gone", room.end(4), false);
        due("bx1", room.text(0), 1);
        due("y without an item", room.body(0, 1), 1);
        Check.feed(room, "b" + " ".repeat(159));
        Check.due("160 of 160", room.end(160), true);
        Check.due("161 of 160", room.end(161), false);
        Check.due("0 of 160", room.end(0), true);
        due("none", room.count(6), 0);
    }

    private static void sorts() {
        Check.by("The FAULT of the TAPE as a HALL (0), a LIGHT (1). NONE: none.");
        Check.faultsAre(0, "b", NONE, "y:1", 0);
        Check.faultsAre(1, "b", 0, "y:1", NONE);
        Check.by("-2: no such sort.");
        GlassRoom room = new GlassRoom();
        for (String text : new String[] {"", "b", "y:1"}) {
            room.end(0);
            Check.feed(room, text);
            for (int sort : new int[] {-1, 2, -2, 3, Check.LOW, Check.HIGH}) {
                due("fault " + sort + " of '" + text + "'", room.fault(sort), -2);
            }
        }
        Check.by("NONE: a FAULT, no such sort, there are four LIGHTS.");
        for (String text : new String[] {"b", "y:1"}) {
            room.end(0);
            Check.feed(room, text);
            for (int sort : new int[] {-1, 2, Check.LOW, Check.HIGH}) {
                due("text " + sort + " of '" + text + "'", room.text(sort), NONE);
                due("the tape stays", room.count(6), text.length());
            }
        }
        due("an empty tape is no light", new GlassRoom().text(1), NONE);
        due("an empty tape is no hall", new GlassRoom().text(0), NONE);
    }

    // ---- the hall

    private static void clauses() {
        Check.by("CLAUSES with ; between");
        Check.faultsAre(0, "b;b", NONE, "bb", 1, "b b", 2, "b;;b", 2, ";b", 0, ";", 0, "b;", 2, "b ; ", 4, "rb", 1, "r;b;", 4);
    }

    private static void oneRoom() {
        Check.by("r (the ROOM; one at most)");
        Check.faultsAre(0, "b", NONE, "r;b", NONE, "r;r;b", 2, "rr;b", 1, "r;b;r", 4, "b;r;r", 4, "b;r;b;r", 6, "rw5;b;rw5", 6,
                "r;b;rw", 4, "b;r;b;b;b;b;b;r", 14);
    }

    private static void oneToSixBodies() {
        Check.by("b (a BODY; 1 .. 6)");
        Check.faultIs(0, "r", 1);
        for (int many = 1; many <= 6; many++) {
            String text = "b" + ";b".repeat(many - 1);
            due(many + " bodies", Check.room(text).count(0), many);
            due(many + " bodies and a room", Check.room("r;" + text).count(0), many);
            due(many + " bodies ahead of a room", Check.room(text + ";r").count(0), many);
        }
        Check.faultsAre(0, "b;b;b;b;b;b;b", 12, "b;b;b;b;b;b;bx1", 12, "r;b;b;b;b;b;b;b", 14, "b;b;b;b;b;b;r;b", 14,
                "b;b;b;b;b;b;b;r", 12, "b;b;b;b;b;b; b", 13, "r;b;b;b;b;b;b; b", 15, "r;b;b;b;b;b;b;", 14, "r;b;b;b;b;b;b; ", 15,
                "b;b;b;b;b;b;r; r", 15);
        due("text answers how many", textOf("b;b;b;b;b;b"), 6);
        due("text answers how many", textOf("b"), 1);
        due("text of seven", textOf("b;b;b;b;b;b;b"), NONE);
    }

    private static int textOf(String text) {
        GlassRoom room = new GlassRoom();
        Check.feed(room, text);
        return room.text(0);
    }

    private static void anyOrder() {
        Check.by("in any order");
        for (int at = 0; at <= 6; at++) {
            StringBuilder text = new StringBuilder();
            for (int k = 0; k <= 6; k++) {
                text.append(k > 0 ? ";" : "").append(k == at ? "rw20h20g5t1" : "bx20y" + (k < at ? k : k - 1));
            }
            GlassRoom room = Check.room(text.toString());
            due("width, told at " + at, room.count(1), 20);
            due("height, told at " + at, room.count(2), 20);
            due("glass, told at " + at, room.count(3), 5);
            due("takes, told at " + at, room.count(4), 1);
            for (int body = 0; body < 6; body++) {
                due("y of " + body, room.body(body, 1), body);
            }
        }
    }

    private static void items() {
        Check.by("then ITEMS, none or more");
        String[] room = {"w7", "h6", "g5", "t4"};
        int[] roomUsual = {10, 8, 15, 10};
        int[] roomTold = {7, 6, 5, 4};
        // Each number below 256 tells four items, each of which stands there once, in some order, or not at all.
        for (int order = 0; order < 256; order++) {
            String text = picked(room, order, 4);
            GlassRoom made = Check.room("r" + text + ";b");
            for (int item = 0; item < 4; item++) {
                boolean told = text.contains(room[item]);
                due("r" + text + " " + room[item], made.count(1 + item), told ? roomTold[item] : roomUsual[item]);
            }
        }
        String[] body = {"x3", "y2", "a0"};
        int[] bodyTold = {3, 2, 0};
        for (int order = 0; order < 64; order++) {
            String text = picked(body, order, 3);
            GlassRoom made = Check.room("bx5y5a1;b" + text + ";bx5y5a1");
            for (int item = 0; item < 3; item++) {
                boolean told = text.contains(body[item]);
                due("b" + text + " " + body[item], made.body(1, item), told ? bodyTold[item] : 1);
            }
        }
        due("without r: WIDTH", Check.room("b").count(1), 10);
        due("without r: HEIGHT", Check.room("b").count(2), 8);
        due("without r: GLASS", Check.room("b").count(3), 15);
        due("without r: TAKES", Check.room("b").count(4), 10);
    }

    private static String picked(String[] items, int order, int times) {
        String text = "";
        for (int k = 0; k < times; k++) {
            String item = items[Math.min(items.length - 1, order >> 2 * k & 3)];
            text += text.contains(item) ? "" : item;
        }
        return text;
    }

    private static void eachLetterOnce() {
        Check.by("a letter, each once at most in a CLAUSE");
        for (char letter : "whgt".toCharArray()) {
            Check.faultIs(0, "r" + letter + "1" + letter + "1;b", 3);
            Check.faultIs(0, "r" + letter + "1" + letter, 3);
            char other = letter == 'g' ? 't' : 'g';
            Check.faultIs(0, "r" + letter + "1" + other + "1" + letter + "1;b", 5);
            Check.faultIs(0, "r" + letter + "1;b", NONE);
        }
        for (char letter : "xya".toCharArray()) {
            Check.faultIs(0, "b" + letter + "1" + letter + "1", 3);
            char other = letter == 'a' ? 'x' : 'a';
            Check.faultIs(0, "b" + letter + "1" + other + "1" + letter + "1", 5);
            Check.faultIs(0, "b" + letter + "1;b" + letter + "1", NONE);
        }
        Check.by("a letter that was there");
        Check.faultsAre(0, "rw2 w", 4, "bx1 y1 x99", 7, "rw1h1g1t1t1;b", 9, "rw1h1g1t1w1;b", 9, "bx1y1a1a", 7, "bx1y1a1x1", 7);
    }

    private static void digits() {
        Check.by("and a number (one or two digits)");
        String[] heads = {"rw", "rh", "rg", "rt", "bx", "by", "ba"};
        for (String head : heads) {
            String tail = head.charAt(0) == 'r' ? ";b" : "";
            Check.faultIs(0, head + tail, 2);
            Check.faultIs(0, head + "1" + tail, NONE);
            Check.faultIs(0, head + "01" + tail, NONE);
            for (String number : new String[] {"000", "001", "010", "100", "111", "200", "999", "0000", "1111", "99999"}) {
                Check.faultIs(0, head + number + tail, 4);
            }
            Check.faultIs(0, head + "-1" + tail, 2);
            Check.faultIs(0, head + "+1" + tail, 2);
        }
    }

    private static void boundsOfItems() {
        Check.by("w WIDTH (1 .. 20; 10 without)");
        bounds("r", 'w', 1, 20, ";bx0y0", 1);
        Check.by("h HEIGHT (1 .. 20; 8)");
        bounds("r", 'h', 1, 20, ";bx0y0", 2);
        Check.by("g GLASS (0 .. 15; 15: bits of walls: 1 left, 2 right, 4 below, 8 above)");
        bounds("r", 'g', 0, 15, ";b", 3);
        Check.by("t how many of 100 a glass TAKES (0 .. 99; 10)");
        bounds("r", 't', 0, 99, ";b", 4);
        Check.by("x, y where it stands (0 .. 20; 1; 0, 0 is left below)");
        bounds("rw20h20;b", 'x', 0, 20, "", 10);
        bounds("rw20h20;b", 'y', 0, 20, "", 11);
        bounds("rw20h20;b", 'x', 0, 20, ";b", 10);
        Check.by("a its ARM (0 left, 1 right; 1)");
        bounds("rw20h20;b", 'a', 0, 1, "", 12);
    }

    /** All numbers of one and two digits; where: 1 .. 4 what count tells, 10 .. 12 what body tells. */
    private static void bounds(String ahead, char letter, int least, int most, String behind, int where) {
        for (int digits = 1; digits <= 2; digits++) {
            for (int value = 0; value < (digits == 1 ? 10 : 100); value++) {
                String number = digits == 2 && value < 10 ? "0" + value : "" + value;
                String text = ahead + letter + number + behind;
                boolean good = value >= least && value <= most;
                Check.faultIs(0, text, good ? NONE : ahead.length() + digits);
                if (good) {
                    GlassRoom room = Check.room(text);
                    due(text + " read", where < 10 ? room.count(where) : room.body(0, where - 10), value);
                }
            }
        }
    }

    /** Behind each beginning every byte, 1 .. 255: at which one no text can go on. */
    private static void whatGoesOn() {
        Check.by("FAULT: the first byte at which no such TEXT can go on");
        goesOn("", "rb");
        goesOn("r", "whgt;");
        goesOn("b", "xya;");
        goesOn("b;", "rb");
        goesOn("r;", "b");
        goesOn("b;r;", "b");
        goesOn("b;b;b;b;b;b;", "r");
        goesOn("rw", "123456789");
        goesOn("rh", "123456789");
        goesOn("rg", DIGITS);
        goesOn("rt", DIGITS);
        goesOn("bx", DIGITS);
        goesOn("by", DIGITS);
        goesOn("ba", "01");
        goesOn("rw1", DIGITS + ";hgt");
        goesOn("rw2", "0;hgt");
        goesOn("rw3", ";hgt");
        goesOn("rw12", ";hgt");
        goesOn("rh2", "0;wgt");
        goesOn("rg1", "012345;wht");
        goesOn("rg2", ";wht");
        goesOn("rt9", DIGITS + ";whg");
        goesOn("bx2", "0;ya");
        goesOn("by2", "0;xa");
        goesOn("ba0", "01;xy");
        goesOn("ba1", ";xy");
        goesOn("bx1y1a1", ";");
        goesOn("rw1h1g1t1", DIGITS + ";");
        goesOn("rw1 ", ";hgt");
        goesOn("bx 1 ", ";ya");
        Check.faultsAre(0, "rw01;b", NONE, "rh09;b", NONE, "rw0", 2, "rw0h", 2, "rw0 1;b", 2);
    }

    private static void goesOn(String ahead, String signs) {
        for (int sign = 1; sign <= 255; sign++) {
            boolean can = sign == ' ' || signs.indexOf(sign) >= 0;
            String text = ahead + (char) sign;
            Check.due("'" + ahead + "' goes on with byte " + sign, Check.faultOf(0, text) != ahead.length(), can);
            if (!can) {
                Check.faultIs(0, text + "b", ahead.length());
            }
        }
    }

    private static void blanks() {
        Check.by("Blanks (32) may stand between all signs of both, not within numbers.");
        String text = "rw12h07g3t45;bx11y2a0;b";
        for (int at = 0; at <= text.length(); at++) {
            String ahead = text.substring(0, at);
            String behind = text.substring(at);
            boolean within = at > 0 && at < text.length() && DIGITS.indexOf(text.charAt(at - 1)) >= 0
                    && DIGITS.indexOf(text.charAt(at)) >= 0;
            if (!within) {
                for (String blanks : new String[] {" ", "   "}) {
                    Check.faultIs(0, ahead + blanks + behind, NONE);
                    GlassRoom room = Check.room(ahead + blanks + behind);
                    due("width", room.count(1), 12);
                    due("height", room.count(2), 7);
                    due("takes", room.count(4), 45);
                    due("x", room.body(0, 0), 11);
                }
            } else if (text.charAt(at - 1) != '0') {
                Check.faultIs(0, ahead + " " + behind, at + 1);
            }
            for (int other : new int[] {9, 10, 11, 12, 13, 31, 33, 160}) {
                boolean zero = within && text.charAt(at - 1) == '0';
                Check.faultIs(0, ahead + (char) other + behind, zero ? at - 1 : at);
            }
        }
        Check.faultsAre(0, "rh0 7;b", 2, " ", 1, "      ", 6, "  b", NONE, "b  ", NONE, "  x", 2);
    }

    private static void endsTooEarly() {
        Check.by("(the length, if it ends too early, without a BODY,");
        Check.faultsAre(0, "", 0, " ", 1, "r", 1, "r ", 2, "r;", 2, "r; ", 3, "b;", 2, "b; ", 3, "rw", 2, "rw ", 3, "bx", 2, "bx ", 3,
                "b;r;", 4, "b;rw", 4, "rw5h5g5t5", 9, "rw5h5g5t5;", 10, "rw20h20 ", 8, "bx1y", 4, "bx1y2a", 6);
        StringBuilder text = new StringBuilder();
        String hall = "rw12h7;bx11y2a0;b";
        for (int at = 0; at < hall.length(); at++) {
            String ahead = hall.substring(0, at);
            boolean whole = ahead.length() >= 8 && "bxya;".indexOf(ahead.charAt(at - 1)) < 0 || ahead.equals("rw12h7;b")
                    || ahead.equals("rw12h7;bx11y2a0;b");
            Check.faultIs(0, text.toString(), whole ? NONE : at);
            text.append(hall.charAt(at));
        }
        Check.faultIs(0, text.toString(), NONE);
    }

    private static void bodiesInTheRoom() {
        Check.by("or with a BODY outside of the ROOM: x above WIDTH, y above HEIGHT)");
        for (int size = 1; size <= 20; size++) {
            insideAndBeyond("rw" + size + ";bx", size);
            insideAndBeyond("rh" + size + ";by", size);
            String late = "bx" + size + ";rw";
            Check.faultIs(0, late + size, NONE);
            if (size > 1) {
                Check.faultIs(0, late + (size - 1), (late + (size - 1)).length());
            }
        }
        insideAndBeyond("bx", 10);
        insideAndBeyond("by", 8);
        for (int body = 0; body < 6; body++) {
            String text = "b;".repeat(body) + "bx11" + ";b".repeat(5 - body);
            Check.faultIs(0, text, text.length());
            Check.faultIs(0, text + " ", text.length() + 1);
            Check.faultIs(0, text + ";rw11", NONE);
            Check.faultIs(0, text + ";rw10", text.length() + 5);
        }
        Check.faultsAre(0, "rw1h1;b", NONE, "rw1h1;bx0y0", NONE, "rw1h1;bx2y0", 11, "rw1h1;bx0y2", 11, "bx8y8", NONE, "bx9y9", 5,
                "rw8h10;bx8y10", NONE, "rw8h10;bx10y8", 13);
    }

    private static void insideAndBeyond(String ahead, int most) {
        Check.faultIs(0, ahead + most, NONE);
        Check.faultIs(0, ahead + "0", NONE);
        String beyond = ahead + (most + 1);
        Check.faultIs(0, beyond, most < 20 ? beyond.length() : beyond.length() - 1);
    }

    private static void whereTheFaultLies() {
        Check.by("a number out of bounds is wrong at its last digit");
        Check.faultsAre(0, "rw0;b", 2, "rw00;b", 3, "rw21;b", 3, "rh99;b", 3, "rg16;b", 3, "ba2", 2, "ba02", 3, "bx21y99", 3,
                "b;bx30;q", 5, "rw21 ;b", 3, "bx21", 3);
        Check.by("a third digit (a fifth one in a LIGHT) itself, whatever stands ahead of it");
        Check.faultsAre(0, "rw000;b", 4, "rw200;b", 4, "rw210;b", 4, "rw999;b", 4, "rt990;b", 4, "ba111", 4, "ba999", 4, "bx 211", 5);
        Check.by("a second r, a seventh b, a seventh of ( [ ! at it.");
        Check.faultsAre(0, "r;rw99", 2, "b;b;b;b;b;b;bx99", 12, "b; r ; r", 7, "b;b;b;b;b;b ;  b", 15);
    }

    private static void longTexts() {
        Check.by("Twenty bytes more come to the TAPE");
        String most = " r w 12 h 13 g 14 t 15 ; b x 10 y 11 a 0 ; b x 10 y 11 a 0 ; b x 10 y 11 a 0 ; b x 10 y 11 a 0 ;"
                + " b x 10 y 11 a 0 ; b x 12 y 13 a 1";
        String whole = most + " ".repeat(160 - most.length());
        Check.faultIs(0, whole, NONE);
        due("six bodies", Check.room(whole).body(5, 1), 13);
        String open = "b" + " ".repeat(158) + ";";
        Check.faultIs(0, open, 160);
        Check.faultIs(0, " ".repeat(160), 160);
        Check.faultIs(0, " ".repeat(159) + "b", NONE);
        Check.faultIs(0, " ".repeat(159) + "x", 159);
        Check.faultIs(0, "bx11" + " ".repeat(156), 160);
    }

    // ---- what a hall changes, and what not

    private static void newHall() {
        Check.by("The TAPE (empty then) is the HALL (PHOTOS, ACTS, the IMAGE of another one are gone; "
                + "LIGHTS, which holds, stay): how many BODIES");
        GlassRoom room = Check.room("rw5h5g3t50;bx5y5a0;b;b");
        Check.addLight(room, "y:f+7");
        Check.addLight(room, "y:f+8");
        room.light(1);
        for (int k = 0; k < 12; k++) {
            room.photo(0, k);
        }
        room.move(0, 1, 1);
        room.keep();
        room.steps(40, 3);
        Check.feed(room, "bx4y4");
        due("one body", room.text(0), 1);
        int[] counts = {1, 10, 8, 15, 10, 2, 0, 1, 0, 0};
        for (int what = 0; what < counts.length; what++) {
            due("count " + what, room.count(what), counts[what]);
        }
        due("no act", room.undo(), NONE);
        due("no image", room.back(), NONE);
        due("no photo", room.fits(NONE), 11 * 9);
        due("the light holds", room.lightOf(0, 0, 0, 0), 8);
        due("x", room.body(0, 0), 4);
        Check.due("the second body is gone", Check.bodyThrows(room, 1, 0), true);
        Check.feed(room, "bx4y4");
        room.keep();
        room.photo(0, 1);
        due("the same text once more is another one", room.text(0), 1);
        due("its image is gone", room.back(), NONE);
        due("its photos are gone", room.count(8), 0);
        Check.by("NONE: a FAULT, no such sort, there are four LIGHTS.");
        due("an empty tape is no hall", room.text(0), NONE);
        due("and the hall stays", room.count(0), 1);
    }

    private static void bodyOfAHall() {
        Check.by("Of a BODY: 0 x, 1 y, 2 its ARM. NoSuchElementException: no such ones.");
        GlassRoom room = new GlassRoom();
        Check.due("no hall", Check.bodyThrows(room, 0, 0), true);
        for (int many = 1; many <= 6; many++) {
            Check.feed(room, "bx6y7a0" + ";bx6y7a0".repeat(many - 1));
            room.text(0);
            due("x of the last", room.body(many - 1, 0), 6);
            due("y of the last", room.body(many - 1, 1), 7);
            due("arm of the last", room.body(many - 1, 2), 0);
            Check.due("one beyond", Check.bodyThrows(room, many, 0), true);
            Check.due("-1", Check.bodyThrows(room, -1, 0), true);
            Check.due("what -1", Check.bodyThrows(room, 0, -1), true);
            Check.due("what 3", Check.bodyThrows(room, 0, 3), true);
        }
        Check.due("lowest", Check.bodyThrows(room, Check.LOW, 0), true);
        Check.due("highest", Check.bodyThrows(room, Check.HIGH, 0), true);
        Check.due("what lowest", Check.bodyThrows(room, 0, Check.LOW), true);
        Check.due("what highest", Check.bodyThrows(room, 0, Check.HIGH), true);
    }
}
