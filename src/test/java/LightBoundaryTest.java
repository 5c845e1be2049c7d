/** The boundaries of a LIGHT's text and of its WORTH (promises 4, 5, 7 and 14, and 'Terms' up to '==== 2.'). */
public final class LightBoundaryTest {
    private static final int NONE = GlassRoom.NONE;
    private static final String DIGITS = "0123456789";
    private static final String LETTERS = "nftijb";
    private static final String JOINS = "+-*/";
    private static final String ATOMS = DIGITS + LETTERS + "[";
    private static final String UNITS = ATOMS + "!(";
    /** Of this hall's second body the image 2, -1 from the first: n 3, f 109, t 1, i 2, j -1, b 729000. */
    private static final String PAIR = "rw4h3;b;bx3y2a0";

    private LightBoundaryTest() {
    }

    public static void main(String[] args) {
        fourLights();
        clauses();
        whatGoesOn();
        digits();
        conditionBehindColon();
        sixWithinOneAnother();
        sideBySide();
        blanks();
        endsTooEarly();
        longTexts();
        numbersWithin();
        divisions();
        whichClause();
        truths();
        letters();
        whichHolds();
        lightOfImages();
        Check.finish("LightBoundaryTest");
    }

    private static void due(String what, long got, long want) {
        Check.due(what, got, want);
    }

    /** Texts and their WORTH for the image that PAIR tells of, in turn. */
    private static void worthsAre(Object... table) {
        for (int k = 0; k + 1 < table.length; k += 2) {
            due("worth of " + table[k], worth(PAIR, (String) table[k], 1, 2, -1), (Integer) table[k + 1]);
        }
    }

    private static int worth(String hall, String light, int body, int i, int j) {
        GlassRoom room = Check.room(hall);
        due("text of " + light, Check.addLight(room, light), 0);
        Check.due("light 0 of " + light, room.light(0), true);
        return room.lightOf(body, i, j, 0);
    }

    private static void fourLights() {
        Check.by("a LIGHT: its number.");
        due("the first one's number", Check.addLight(new GlassRoom(), "y:1"), 0);
        Check.by("LIGHTS (4 at most) are TEXTS");
        GlassRoom room = Check.room(PAIR);
        for (int k = 0; k < 4; k++) {
            due("lights so far", room.count(5), k);
            due("light " + k, Check.addLight(room, "y:" + (k + 50)), k);
        }
        due("lights", room.count(5), 4);
        Check.by("NONE: a FAULT, no such sort, there are four LIGHTS.");
        due("a fifth", Check.addLight(room, "y:99"), NONE);
        due("its tape stays", room.count(6), 4);
        due("it has no fault", room.fault(1), NONE);
        due("still four", room.count(5), 4);
        due("a hall's text is no fifth light", room.text(0), NONE);
        for (int k = 0; k < 4; k++) {
            Check.due("light " + k + " holds", room.light(k), true);
            due("worth by " + k, room.lightOf(0, 0, 0, 0), k + 50);
        }
        Check.due("the fifth does not", room.light(4), false);
        due("the fourth still holds", room.lightOf(0, 0, 0, 0), 53);
        due("a fault of what was fed behind it", Check.feed(room, "?"), 5);
        due("a fault with four lights", room.fault(1), 4);
        due("and the fourth still holds", room.lightOf(0, 0, 0, 0), 53);
        GlassRoom bare = new GlassRoom();
        due("a light without a hall", Check.addLight(bare, "y:n"), 0);
        due("a refused light", Check.addLight(bare, "y:q"), NONE);
        due("counts nothing", bare.count(5), 1);
        bare.end(0);
        due("the next one", Check.addLight(bare, "y:b"), 1);
        GlassRoom afresh = Check.room(PAIR);
        for (String ahead : new String[] {"y:71", "y:72;", "y:73;y:n=0?1", "y:n=0?74?", "y:n=0?75;y:76+", "y:(n=0"}) {
            afresh.end(0);
            Check.feed(afresh, ahead);
            afresh.fault(1);
            afresh.fault(0);
        }
        due("refused", afresh.text(1), NONE);
        afresh.end(0);
        due("taken", Check.addLight(afresh, "y:77"), 0);
        afresh.light(0);
        due("nothing of what was looked at or refused is in it", afresh.lightOf(0, 0, 0, 0), 77);
    }

    private static void clauses() {
        Check.by("CLAUSES with ; between, one at least");
        Check.faultsAre(1, "", 0, " ", 1, ";", 0, "y:1", NONE, "y:1;", 4, "y:1; ", 5, "y:1;y:2", NONE, "y:1;;y:2", 4, ";y:1", 0,
                "y:1y:2", 3, "y:1 y:2", 4, "y:1;y", 5, "y:1;y:", 6, "y:1;y:2;y:3;y:4;y:5", NONE);
        Check.by("y, : , perhaps CONDITION ?, then SUM");
        Check.faultsAre(1, "y", 1, "y:", 2, ":1", 0, "y1", 1, "yy:1", 1, "y::1", 2, "Y:1", 0, "y;1", 1, "y:?1", 2, "y:n=1?", 6,
                "y:n=1?1", NONE, "y:n=1?1?1", 7, "y:n=1?1=1", 7, "y:n=1?n=1?1", 7, "y:1?1", 3, "y:[n=1]?1", 4, "y:n=1", 5,
                "y:n=1;y:1", 5);
    }

    /** Behind each beginning every byte, 1 .. 255: at which one no text can go on. */
    private static void whatGoesOn() {
        Check.by("FAULT: the first byte at which no such TEXT can go on");
        goesOn("", "y");
        goesOn("y", ":");
        goesOn("y:", UNITS);
        goesOn("y:n", JOINS + "=<>;");
        goesOn("y:1", DIGITS + JOINS + "=<>;");
        goesOn("y:1 ", JOINS + "=<>;");
        goesOn("y:n+", ATOMS);
        goesOn("y:n*", ATOMS);
        goesOn("y:n-", ATOMS);
        goesOn("y:n/", ATOMS);
        goesOn("y:n;", "y");
        goesOn("y:[", ATOMS);
        goesOn("y:[n", JOINS + "]");
        goesOn("y:[n]", JOINS + "=<>;");
        goesOn("y:n=", ATOMS);
        goesOn("y:n<", ATOMS);
        goesOn("y:n>", ATOMS);
        goesOn("y:n=n", JOINS + "&|?");
        goesOn("y:n=[n", JOINS + "]");
        goesOn("y:n=[n]", JOINS + "&|?");
        goesOn("y:n=n&", UNITS);
        goesOn("y:n=n|", UNITS);
        goesOn("y:n=n&n", JOINS + "=<>");
        goesOn("y:n=n|[n]", JOINS + "=<>");
        goesOn("y:n=n?", ATOMS);
        goesOn("y:n=n?n", JOINS + ";");
        goesOn("y:n=n?[n]", JOINS + ";");
        goesOn("y:!", UNITS);
        goesOn("y:!n", JOINS + "=<>");
        goesOn("y:!n=n", JOINS + "&|?");
        goesOn("y:(", UNITS);
        goesOn("y:(n", JOINS + "=<>");
        goesOn("y:(n=n", JOINS + "&|)");
        goesOn("y:(n=n)", "&|?");
        goesOn("y:(n=n&", UNITS);
        goesOn("y:(!(n=n)", "&|)");
        goesOn("y:!(n=n)", "&|?");
        goesOn("y:n=n?n;y:n", JOINS + "=<>;");
    }

    private static void goesOn(String ahead, String signs) {
        for (int sign = 1; sign <= 255; sign++) {
            boolean can = sign == ' ' || signs.indexOf(sign) >= 0;
            String text = ahead + (char) sign;
            Check.due("'" + ahead + "' goes on with byte " + sign, Check.faultOf(1, text) != ahead.length(), can);
            if (!can) {
                Check.faultIs(1, text + "1", ahead.length());
            }
        }
    }

    private static void digits() {
        Check.by("ATOM: a number (1 to 4 digits), a letter (n f t i j b), [ SUM ]");
        Check.faultsAre(1, "y:1", NONE, "y:12", NONE, "y:123", NONE, "y:1234", NONE, "y:0000", NONE, "y:9999", NONE);
        worthsAre("y:0", 0, "y:9", 9, "y:10", 10, "y:999", 999, "y:1000", 1000, "y:9999", 9999, "y:0000", 0, "y:0012", 12);
        Check.by("a third digit (a fifth one in a LIGHT) itself, whatever stands ahead of it");
        Check.faultsAre(1, "y:12345", 6, "y:00000", 6, "y:00001", 6, "y:99999", 6, "y:123456789", 6, "y:n=12345?1", 8,
                "y:n=1?12345", 10, "y:[12345]", 7, "y:1+12345", 8, "y:(12345=1)?1", 7, "y:!12345=1?1", 7, "y: 12345", 7,
                "y:1234 5", 7, "y:1;y:12345", 10);
    }

    private static void conditionBehindColon() {
        Check.by("(A CLAUSE that goes on with ! or ( behind its : has a CONDITION.)");
        Check.faultsAre(1, "y:(1)", 4, "y:(n)", 4, "y:(1)=1?1", 4, "y:(n=1)", 7, "y:(n=1)+1", 7, "y:(n=1)=1?1", 7, "y:(n=1);y:1", 7,
                "y:(n=1)?1", NONE, "y:!n", 4, "y:!n;", 4, "y:!n=1", 6, "y:!n=1;", 6, "y:!n=1?1", NONE, "y: ( n=1)", 9, "y: !n=1", 7,
                "y:((n=1))?1", NONE, "y:([n]=1)?1", NONE, "y:n=1&(1)?1", 8, "y:n=(1)?1", 4, "y:n=1?(1)", 6, "y:n=1?!n=1", 6,
                "y:1+(1)", 4, "y:[(1)]", 3, "y:[!n]", 3, "y:n!", 3, "y:n(", 3);
    }

    private static void sixWithinOneAnother() {
        Check.by("At most six of ( [ ! within one another.");
        for (int length = 0; length <= 7; length++) {
            for (int brackets = 0; brackets <= length; brackets++) {
                int outer = length - brackets;
                // Of what stands outside of the [ each bit of signs makes one a ( or a !.
                for (int signs = 0; signs < 1 << outer; signs++) {
                    int fault = length <= 6 ? NONE : 8;
                    Check.faultIs(1, "y:" + within(outer, signs, brackets, true) + "?1", fault);
                    Check.faultIs(1, "y:" + within(outer, signs, brackets, false) + "?1",
                            fault == NONE || brackets == 0 ? fault : 10);
                }
            }
        }
        Check.by("a second r, a seventh b, a seventh of ( [ ! at it.");
        Check.faultsAre(1, "y:[[[[[[1]]]]]]", NONE, "y:[[[[[[[1]]]]]]]", 8, "y:[[[[[[[", 8, "y:[[[[[[", 8, "y:!!!!!!!", 8, "y:!!!!!!", 8,
                "y:(((((((", 8, "y:((((((", 8, "y:!(!(!([", 8, "y:!(!(!(n=1)))?1", NONE, "y: [ [ [ [ [ [ [", 15,
                "y:n=1?[[[[[[1]]]]]]", NONE, "y:n=1?[[[[[[[1]]]]]]]", 12, "y:n=[[[[[[1]]]]]]?1", NONE, "y:n=[[[[[[[1]]]]]]]?1", 10,
                "y:1+[[[[[[1]]]]]]", NONE, "y:1+[[[[[[[1", 10, "y:1;y:[[[[[[1]]]]]]", NONE, "y:1;y:[[[[[[[1", 12,
                "y:!n=[[[[[1]]]]]?1", NONE, "y:!n=[[[[[[1]]]]]]?1", 10);
    }

    /** A comparison within so many ( or !, with so many [ on its left or on its right side. */
    private static String within(int outer, int signs, int brackets, boolean left) {
        String deep = "[".repeat(brackets) + "n" + "]".repeat(brackets);
        StringBuilder text = new StringBuilder(left ? deep + "=1" : "1=" + deep);
        for (int k = outer - 1; k >= 0; k--) {
            boolean not = (signs >> k & 1) == 1;
            text.insert(0, not ? "!" : "(").append(not ? "" : ")");
        }
        return text.toString();
    }

    private static void sideBySide() {
        Check.by("At most six of ( [ ! within one another.");
        String six = "[[[[[[1]]]]]]";
        Check.faultsAre(1, "y:" + six + "+" + six + "*" + six, NONE, "y:" + six + "=" + six + "?" + six, NONE,
                "y:!!!!!!n=1&!!!!!!n=1|!!!!!!n=1?1", NONE, "y:((((((n=1))))))&((((((n=1))))))?1", NONE,
                "y:(((((n=1)))))&!!!!!!n=1|" + six + "=1?1", NONE, "y:(((((n=1&!n=2)&!n=3)))|!n=1)?" + six, NONE,
                "y:(((((n=1)&!n=1)))|!!!!!n=1)?1", NONE, "y:(((((n=1)&!n=1)))|!!!!!!n=1)?1", 25, "y:(n=1)&!!!!!!!n=1?1", 14,
                "y:[1]+[[[[[[[1", 12, "y:[1+[1+[1+[1+[1+[1]]]]]]", NONE, "y:[1+[1+[1+[1+[1+[1+[1", 20);
        worthsAre("y:[1+[1+[1+[1+[1+[1]]]]]]", 6, "y:" + six + "+" + six, 2, "y:!!!!!!n=3?1;y:2", 1, "y:!!!!!n=3?1;y:2", 2,
                "y:((((((n=3))))))?1;y:2", 1, "y:(!(!(!n=3)))?1;y:2", 2);
    }

    private static void blanks() {
        Check.by("Blanks (32) may stand between all signs of both, not within numbers.");
        String text = "y:!(n=12|[f+3]*45<b)&t>0?i-1234/j;y:b";
        for (int at = 0; at <= text.length(); at++) {
            String ahead = text.substring(0, at);
            String behind = text.substring(at);
            boolean within = at > 0 && at < text.length() && DIGITS.indexOf(text.charAt(at - 1)) >= 0
                    && DIGITS.indexOf(text.charAt(at)) >= 0;
            Check.faultIs(1, ahead + " " + behind, within ? at + 1 : NONE);
            Check.faultIs(1, ahead + "   " + behind, within ? at + 3 : NONE);
            for (int other : new int[] {9, 10, 11, 12, 13, 31, 160}) {
                Check.faultIs(1, ahead + (char) other + behind, at);
            }
        }
        worthsAre(" y : ! n = 4 & ( f > 108 ) ? [ i - 1234 ] / j ; y : b ", 1232);
    }

    private static void endsTooEarly() {
        Check.by("(the length, if it ends too early, without a BODY,");
        String text = "y:!(n=12|[f+3]*45<b)&t>0?i-1234/j;y:b";
        String wholes = "nftijb" + DIGITS;
        int ask = text.indexOf('?');
        for (int at = 0; at <= text.length(); at++) {
            String ahead = text.substring(0, at);
            boolean whole = at > ask + 1 && wholes.indexOf(ahead.charAt(at - 1)) >= 0;
            Check.faultIs(1, ahead, whole ? NONE : at);
            Check.faultIs(1, ahead + "  ", whole ? NONE : at + 2);
        }
    }

    private static void longTexts() {
        Check.by("Twenty bytes more come to the TAPE");
        String sum = "y:" + "1+".repeat(78) + "11";
        Check.faultIs(1, sum, NONE);
        due("a sum of 160 bytes", worth(PAIR, sum, 0, 0, 0), 89);
        Check.faultIs(1, "y:" + "1+".repeat(79), 160);
        String times = "y:" + "n*".repeat(78) + "n ";
        due("a product of 160 bytes", worth(PAIR, times, 1, 2, -1), 1000000);
        String less = "y:1" + "-1".repeat(78) + " ";
        due("a difference of 160 bytes", worth(PAIR, less, 0, 0, 0), -77);
        String mixed = "y:1" + "+1*1".repeat(39) + " ";
        due("terms and atoms of 160 bytes", worth(PAIR, mixed, 0, 0, 0), 40);
        String clauses = "y:1=0?1;".repeat(19) + "y:1=1?77";
        Check.faultIs(1, clauses, NONE);
        due("twenty clauses", worth(PAIR, clauses, 0, 0, 0), 77);
        String plain = "y:1;".repeat(39) + "y:2 ";
        due("forty clauses", worth(PAIR, plain, 0, 0, 0), 1);
        String truths = "y:1=0" + "|1=0".repeat(37) + "|1=1?" + "12";
        Check.faultIs(1, truths, NONE);
        due("truths of 160 bytes", worth(PAIR, truths, 0, 0, 0), 12);
        String units = "y:1=1" + "&1=1".repeat(37) + "&1=0?" + "12";
        due("units of 160 bytes", worth(PAIR, units, 0, 0, 0), 0);
        Check.faultIs(1, " ".repeat(157) + "y:1", NONE);
        Check.faultIs(1, " ".repeat(158) + "y:", 160);
        Check.faultIs(1, "y:1" + " ".repeat(157), NONE);
    }

    private static void numbersWithin() {
        Check.by("Behind each sign numbers are within -1,000,000 .. 1,000,000");
        worthsAre("y:1000*1000", 1000000, "y:999*1001", 999999, "y:1001*1000", 1000000, "y:9999*9999", 1000000,
                "y:9999*9999*9999*9999", 1000000, "y:1000*1000+0", 1000000, "y:1000*1000+1", 1000000, "y:1000*1000-1", 999999,
                "y:999*1001+1", 1000000, "y:999*1001+2", 1000000, "y:999*1001+2-2", 999998, "y:1000*1000+1-1", 999999,
                "y:1000*1000+9999-9999", 990001, "y:9999*9999/1000", 1000, "y:[1000*1000+1]/1000", 1000,
                "y:0-1000*1000", -1000000, "y:0-999*1001", -999999, "y:0-999*1001-1", -1000000, "y:0-999*1001-2", -1000000,
                "y:0-999*1001-2+2", -999998, "y:0-1000*1000-1", -1000000, "y:0-1000*1000-1+1", -999999,
                "y:[0-1000]*1000", -1000000, "y:[0-1001]*999", -999999, "y:[0-1000]*1001", -1000000, "y:[0-9999]*9999", -1000000,
                "y:[0-9999]*9999*9999", -1000000, "y:[0-9999]*[0-9999]", 1000000, "y:[0-1000*1000]*[0-1000*1000]", 1000000,
                "y:[0-1000*1000]-1000*1000", -1000000, "y:1000*1000-[0-1000*1000]", 1000000, "y:b+b", 1000000, "y:b+b-b", 271000,
                "y:0-b-b+b", -271000, "y:b*b/b", 1, "y:[0-1000*1000]/[0-1]", 1000000, "y:1000*1000/[0-1]", -1000000,
                "y:1000*1000+1=1000*1000?7;y:8", 7, "y:1000*1000+1>1000*1000?7;y:8", 8, "y:1000*1000>999*1001?7;y:8", 7,
                "y:b-1<b?7;y:8", 7);
        due("brightest, one more", worth(PAIR, "y:b+1", 0, 0, 0), 1000000);
        due("brightest, one less", worth(PAIR, "y:b-1", 0, 0, 0), 999999);
        due("brightest squared", worth(PAIR, "y:b*b", 0, 0, 0), 1000000);
        due("brightest squared below 0", worth(PAIR, "y:[0-b]*b", 0, 0, 0), -1000000);
        due("brightest cubed", worth(PAIR, "y:b*b*b", 0, 0, 0), 1000000);
    }

    private static void divisions() {
        Check.by("/ cuts towards 0, by 0 gives 0.");
        worthsAre("y:7/2", 3, "y:[0-7]/2", -3, "y:7/[0-2]", -3, "y:[0-7]/[0-2]", 3, "y:1/2", 0, "y:[0-1]/2", 0, "y:6/3", 2, "y:5/3", 1,
                "y:8/3", 2, "y:5/0", 0, "y:0/0", 0, "y:0/5", 0, "y:b/0", 0, "y:[0-5]/0", 0, "y:5/[n-n]", 0, "y:5/[n-3]+4", 4,
                "y:5/0*0", 0, "y:1/0=0?7;y:8", 7, "y:7/2*2", 6, "y:2*7/2", 7, "y:100/10/5", 2, "y:100/[10/5]", 50);
    }

    private static void whichClause() {
        Check.by("WORTH: the SUM of the first CLAUSE whose CONDITION holds (or has none), 0 without.");
        worthsAre("y:n=3?1;y:n=3?2;y:3", 1, "y:n=4?1;y:n=3?2;y:3", 2, "y:n=4?1;y:n=5?2;y:3", 3, "y:n=4?1;y:n=5?2", 0, "y:n=4?1", 0,
                "y:n=3?1", 1, "y:5;y:6", 5, "y:5;y:n=3?6", 5, "y:n=4?1;y:5;y:n=3?6", 5, "y:n=4?1;y:5;y:6", 5, "y:n=3?0;y:9", 0);
        Check.by("SUM, one of = < >, SUM");
        worthsAre("y:n=2?1;y:2", 2, "y:n=3?1;y:2", 1, "y:n=4?1;y:2", 2, "y:n<3?1;y:2", 2, "y:n<4?1;y:2", 1, "y:n>3?1;y:2", 2,
                "y:n>2?1;y:2", 1, "y:j<0?1;y:2", 1, "y:j>0-1?1;y:2", 2, "y:0<j?1;y:2", 2);
    }

    private static void truths() {
        Check.by("CONDITION: TRUTHS with | between; TRUTH: UNITS with & between; UNIT: ! UNIT, ( CONDITION )");
        // The units hold (n is 3) or not by the bits of a number; & binds closer than |, ! closer than both.
        for (int bits = 0; bits < 16; bits++) {
            boolean p = (bits & 1) != 0;
            boolean q = (bits & 2) != 0;
            boolean r = (bits & 4) != 0;
            boolean s = (bits & 8) != 0;
            String[] u = new String[4];
            for (int k = 0; k < 4; k++) {
                u[k] = (bits >> k & 1) == 1 ? "n=3" : "n=4";
            }
            holds(u[0] + "|" + u[1] + "&" + u[2] + "|" + u[3], p || q && r || s);
            holds(u[0] + "&" + u[1] + "|" + u[2] + "&" + u[3], p && q || r && s);
            holds("(" + u[0] + "|" + u[1] + ")&(" + u[2] + "|" + u[3] + ")", (p || q) && (r || s));
            holds("!" + u[0] + "&" + u[1] + "|!" + u[2] + "&!!" + u[3], !p && q || !r && s);
            holds("!(" + u[0] + "&" + u[1] + ")|" + u[2] + "&" + u[3], !(p && q) || r && s);
            holds("!(" + u[0] + "|!(" + u[1] + "&" + u[2] + "))|" + u[3], !(p || !(q && r)) || s);
            holds(u[0] + "&" + u[1] + "&" + u[2] + "&" + u[3], p && q && r && s);
            holds(u[0] + "|" + u[1] + "|" + u[2] + "|" + u[3], p || q || r || s);
        }
        Check.by("SUM: TERMS with + or - between; TERM: ATOMS with * or / between");
        worthsAre("y:2+3*4", 14, "y:2*3+4", 10, "y:20-6/3", 18, "y:20/5-3", 1, "y:2*[3+4]", 14, "y:[20-6]/2", 7, "y:10-2-3", 5,
                "y:10-[2-3]", 11, "y:2+3*4-5*6/3", 4, "y:1+2*3*4+5", 30, "y:24/2/3*2-1-1", 6, "y:10-2+3", 11, "y:2-3*4+1", -9);
    }

    private static void holds(String condition, boolean want) {
        worthsAre("y:" + condition + "?1;y:2", want ? 1 : 2);
    }

    private static void letters() {
        Check.by("letters: n GLASSES, f FAR, t whether it is TURNED (1, 0), i, j, b BRIGHT.");
        worthsAre("y:n", 3, "y:f", 109, "y:t", 1, "y:i", 2, "y:j", -1, "y:b", 729000);
        String[] lights = {"y:n", "y:f", "y:t", "y:i", "y:j", "y:b"};
        int[] itself = {0, 5, 0, 0, 0, 1000000};
        // Its farthest image stands at 43, 32, that 10 to the left and 9 up at -37, 28; the eye stands at 1, 1.
        int[] farthest = {20, 42 * 42 + 31 * 31, 0, 10, 10, 121574};
        int[] across = {19, 38 * 38 + 27 * 27, 1, -10, 9, 135083};
        for (int k = 0; k < lights.length; k++) {
            due("itself " + lights[k], worth(PAIR, lights[k], 1, 0, 0), itself[k]);
            due("farthest " + lights[k], worth(PAIR, lights[k], 1, 10, 10), farthest[k]);
            due("across " + lights[k], worth(PAIR, lights[k], 1, -10, 9), across[k]);
        }
    }

    private static void whichHolds() {
        Check.by("The LIGHT that holds (NONE: none). False: no such one.");
        GlassRoom room = Check.room(PAIR);
        Check.due("none of none", room.light(NONE), true);
        Check.due("0 of none", room.light(0), false);
        due("none holds", room.count(7), NONE);
        Check.addLight(room, "y:41");
        due("none holds still", room.count(7), NONE);
        due("BRIGHT", room.lightOf(1, 1, 0, 0), 900000);
        Check.due("0 of one", room.light(0), true);
        Check.due("1 of one", room.light(1), false);
        Check.due("-2", room.light(-2), false);
        Check.due("lowest", room.light(Check.LOW), false);
        Check.due("highest", room.light(Check.HIGH), false);
        due("0 holds", room.count(7), 0);
        due("by 0", room.lightOf(1, 1, 0, 0), 41);
        Check.addLight(room, "y:42");
        due("0 holds still", room.count(7), 0);
        Check.due("1 of two", room.light(1), true);
        due("by 1", room.lightOf(1, 1, 0, 0), 42);
        Check.due("1 again", room.light(1), true);
        Check.due("none", room.light(NONE), true);
        due("none holds", room.count(7), NONE);
        due("BRIGHT again", room.lightOf(1, 1, 0, 0), 900000);
        GlassRoom bare = new GlassRoom();
        Check.addLight(bare, "y:43");
        Check.due("0 without a hall", bare.light(0), true);
        due("0 holds without a hall", bare.count(7), 0);
        Check.feed(bare, "b");
        bare.text(0);
        due("and in the hall that comes", bare.lightOf(0, 0, 0, 0), 43);
    }

    private static void lightOfImages() {
        Check.by("LIGHT (whether it is THERE or not). HIDDEN: no such ones.");
        GlassRoom room = Check.room("rw4h3g0;b;bx3y2a0");
        due("not there, BRIGHT", room.lightOf(1, 2, -1, 0), 729000);
        Check.addLight(room, "y:f");
        room.light(0);
        due("not there, FAR", room.lightOf(1, 2, -1, 0), 109);
        due("from itself", room.lightOf(1, 0, 0, 1), 0);
        for (int sign = -1; sign <= 1; sign += 2) {
            Check.due("i " + 10 * sign, room.lightOf(0, 10 * sign, 0, 1) >= 0, true);
            Check.due("j " + 10 * sign, room.lightOf(0, 0, 10 * sign, 1) >= 0, true);
            due("i " + 11 * sign, room.lightOf(0, 11 * sign, 0, 1), GlassRoom.HIDDEN);
            due("j " + 11 * sign, room.lightOf(0, 0, 11 * sign, 1), GlassRoom.HIDDEN);
        }
        int[] noBodies = {-1, 2, Check.LOW, Check.HIGH};
        for (int no : noBodies) {
            due("body " + no, room.lightOf(no, 0, 0, 0), GlassRoom.HIDDEN);
            due("eye " + no, room.lightOf(0, 0, 0, no), GlassRoom.HIDDEN);
        }
        for (int no : new int[] {Check.LOW, Check.HIGH}) {
            due("i " + no, room.lightOf(0, no, 0, 0), GlassRoom.HIDDEN);
            due("j " + no, room.lightOf(0, 0, no, 0), GlassRoom.HIDDEN);
        }
        due("no hall", new GlassRoom().lightOf(0, 0, 0, 0), GlassRoom.HIDDEN);
    }
}
