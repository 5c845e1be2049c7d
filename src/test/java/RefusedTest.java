import java.util.ArrayList;
import java.util.List;

/**
 * 'What is refused answers as told and changes nothing', for every call in several states. Two objects are brought into one
 * state, one of them is asked what it must refuse, then both are asked all that can be asked and are taken apart in several
 * ways (undone, brought back, told new texts, ..): their answers must be the same.
 */
public final class RefusedTest {
    private static final int NONE = GlassRoom.NONE;
    private static final int HIDDEN = GlassRoom.HIDDEN;
    private static final int LOW = Check.LOW;
    private static final int HIGH = Check.HIGH;

    private interface Ask {
        long of(GlassRoom room);
    }

    private interface Make {
        GlassRoom room();
    }

    private interface TakeApart {
        void into(List<Long> answers, GlassRoom room);
    }

    private record Call(String name, Ask ask, long due) {
    }

    private record State(String name, Make make, boolean kept) {
    }

    private static final TakeApart[] WAYS = {RefusedTest::lookAtAll, RefusedTest::undoAll, RefusedTest::goBack,
        RefusedTest::shortenTape, RefusedTest::tellHall, RefusedTest::tellLights, RefusedTest::tryLights, RefusedTest::photograph,
        RefusedTest::actOn};

    private RefusedTest() {
    }

    public static void main(String[] args) {
        Check.by("What is refused answers as told and changes nothing.");
        State[] states = {new State("new", GlassRoom::new, false), new State("lights without a hall", RefusedTest::lightsAlone, false),
            new State("a hall as it is told", RefusedTest::freshHall, false), new State("acts alone", RefusedTest::actsAlone, false),
            new State("acts and an image", RefusedTest::halfFull, true), new State("all undone", RefusedTest::allUndone, true),
            new State("all that can be", RefusedTest::full, true)};
        for (State state : states) {
            List<Call> refused = new ArrayList<>();
            addTapeCalls(refused, state.make.room());
            addActs(refused, state.make.room());
            if (!state.kept) {
                refused.add(new Call("back", GlassRoom::back, NONE));
            }
            addImageCalls(refused, state.make.room());
            addBallCalls(refused, state.make.room());
            addOthers(refused, state.make.room());
            answersAsTold(state, refused);
            changesNothing(state, refused);
            changesNothing(state, asked());
        }
        Check.finish("RefusedTest");
    }

    // ---- the states

    private static GlassRoom lightsAlone() {
        GlassRoom room = new GlassRoom();
        Check.addLight(room, "y:n+41");
        Check.addLight(room, "y:f+42");
        room.light(1);
        Check.feed(room, "y:n=1?2;");
        return room;
    }

    private static GlassRoom freshHall() {
        GlassRoom room = Check.room("rw4h3;b;bx3y2a0");
        Check.feed(room, "bx11");
        return room;
    }

    private static GlassRoom actsAlone() {
        GlassRoom room = Check.room("rw4h3g1;b;bx3y2a0");
        room.move(1, 4, 3);
        room.glass(6);
        room.steps(2, 6);
        room.photo(1, room.far(0, 0, 0, 1));
        Check.feed(room, "y:1+;");
        return room;
    }

    private static GlassRoom allUndone() {
        GlassRoom room = actsAlone();
        room.keep();
        for (int k = 0; k < 4; k++) {
            room.undo();
        }
        return room;
    }

    private static GlassRoom halfFull() {
        GlassRoom room = Check.room("rw12h7g7t20;bx2y3a0;bx12y7;bx0y0");
        Check.addLight(room, "y:f-n");
        Check.addLight(room, "y:j=0?i;y:j");
        room.light(0);
        room.photo(1, 25);
        room.move(0, 5, 5);
        room.keep();
        room.glass(15);
        room.steps(6, -31);
        room.photo(0, 4);
        Check.feed(room, "r;b" + " ".repeat(142) + ";");
        return room;
    }

    private static GlassRoom full() {
        GlassRoom room = Check.room("rw9h8g3t5;bx1y1;bx2y2a0;bx3y3;bx4y4a0;bx5y5;bx6y6a0");
        for (int k = 0; k < 4; k++) {
            Check.addLight(room, "y:f*" + (k + 2) + "+n");
        }
        room.light(3);
        room.move(2, 9, 8);
        room.steps(39, 12);
        room.keep();
        room.glass(11);
        room.move(0, 9, 0);
        room.steps(3, 5);
        // All twelve fit where the first body stands.
        for (int k = 0; k < 12; k++) {
            room.photo(k % 6, room.far(0, 0, 0, k % 6));
        }
        Check.feed(room, "y:" + "1+".repeat(78) + "11");
        return room;
    }

    // ---- what must be refused

    private static void addTapeCalls(List<Call> calls, GlassRoom room) {
        int tape = room.count(6);
        if (tape > 140) {
            calls.add(new Call("feed twenty", r -> r.feed(-1, 0x62626262, -1, -1, 0x3b3b3b3b), NONE));
        }
        if (tape == 160) {
            calls.add(new Call("feed one", r -> r.feed(0, 0, 0, 0, 0x3b), NONE));
            calls.add(new Call("feed one", r -> r.feed(0x20000000, 0, 0, 0, 0), NONE));
        }
        for (int n : new int[] {-1, tape + 1, LOW, HIGH, 161}) {
            calls.add(new Call("end " + n, r -> r.end(n) ? 1 : 0, 0));
        }
        for (int sort : new int[] {-1, 2, LOW, HIGH}) {
            calls.add(new Call("fault " + sort, r -> r.fault(sort), -2));
            calls.add(new Call("text " + sort, r -> r.text(sort), NONE));
        }
        calls.add(new Call("text 0", r -> r.text(0), NONE));
        calls.add(new Call("text 1", r -> r.text(1), NONE));
        for (int light : new int[] {-2, room.count(5), LOW, HIGH, 4}) {
            calls.add(new Call("light " + light, r -> r.light(light) ? 1 : 0, 0));
        }
        for (int body : beyond(room)) {
            calls.add(new Call("body " + body, r -> Check.bodyThrows(r, body, 0) ? 1 : 0, 1));
        }
        for (int what : new int[] {-1, 3, LOW, HIGH}) {
            calls.add(new Call("body's " + what, r -> Check.bodyThrows(r, 0, what) ? 1 : 0, 1));
        }
        for (int what : new int[] {-1, 10, LOW, HIGH}) {
            calls.add(new Call("count " + what, r -> r.count(what), HIDDEN));
        }
    }

    private static int[] beyond(GlassRoom room) {
        return new int[] {-1, room.count(0), room.count(0) + 1, LOW, HIGH};
    }

    private static void addActs(List<Call> calls, GlassRoom room) {
        int width = room.count(1);
        int height = room.count(2);
        for (int body : beyond(room)) {
            calls.add(new Call("move " + body, r -> r.move(body, 0, 0), NONE));
        }
        int[][] outside = {{-1, 0}, {width + 1, 0}, {0, -1}, {0, height + 1}, {LOW, HIGH}};
        for (int[] o : outside) {
            calls.add(new Call("move to " + o[0] + " " + o[1], r -> r.move(0, o[0], o[1]), NONE));
        }
        for (int body = 0; body < room.count(0); body++) {
            int b = body;
            calls.add(new Call("move " + b + " where it stands", r -> r.move(b, r.body(b, 0), r.body(b, 1)), NONE));
        }
        for (int walls : new int[] {-1, 16, LOW, HIGH, room.count(3)}) {
            calls.add(new Call("glass " + walls, r -> r.glass(walls), NONE));
        }
        for (int n : new int[] {0, -1, 41, LOW, HIGH}) {
            calls.add(new Call("steps " + n, r -> r.steps(n, 3), NONE));
        }
        for (int far : new int[] {-1, 100000, LOW, HIGH}) {
            calls.add(new Call("photo " + far, r -> r.photo(0, far), NONE));
        }
        for (int eye : beyond(room)) {
            calls.add(new Call("photo of " + eye, r -> r.photo(eye, 0), NONE));
        }
        if (room.count(8) == 12) {
            calls.add(new Call("a 13th photo", r -> r.photo(0, 0), NONE));
        }
        if (room.count(9) == 0) {
            calls.add(new Call("undo", GlassRoom::undo, NONE));
        }
        if (room.count(0) == 0) {
            calls.add(new Call("glass 7", r -> r.glass(7), NONE));
            calls.add(new Call("steps", r -> r.steps(3, 3), NONE));
            calls.add(new Call("keep", GlassRoom::keep, NONE));
            calls.add(new Call("fits", r -> r.fits(NONE), NONE));
            calls.add(new Call("round", r -> r.round(1, 1), NONE));
        }
    }

    private static void addImageCalls(List<Call> calls, GlassRoom room) {
        for (int no : beyond(room)) {
            calls.add(new Call("image of " + no, r -> r.image(no, 0, 0, 0), HIDDEN));
            calls.add(new Call("far of " + no, r -> r.far(no, 0, 0, 0), NONE));
            calls.add(new Call("far from " + no, r -> r.far(0, 0, 0, no), NONE));
            calls.add(new Call("lightOf " + no, r -> r.lightOf(no, 0, 0, 0), HIDDEN));
            calls.add(new Call("lightOf from " + no, r -> r.lightOf(0, 0, 0, no), HIDDEN));
            calls.add(new Call("near of " + no, r -> r.near(no, 0, 0, 0), HIDDEN));
            calls.add(new Call("near from " + no, r -> r.near(0, no, 0, 0), HIDDEN));
            calls.add(new Call("within of " + no, r -> r.within(no, 0, 5), NONE));
            calls.add(new Call("within from " + no, r -> r.within(0, no, 5), NONE));
            calls.add(new Call("brighter from " + no, r -> r.brighter(no, 0), NONE));
            calls.add(new Call("seen " + no, r -> r.seen(no, 0, 0, 0), NONE));
            calls.add(new Call("seen from " + no, r -> r.seen(0, 0, 0, no), NONE));
            calls.add(new Call("view of " + no, r -> r.view(no, 0, 0), NONE));
            calls.add(new Call("view from " + no, r -> r.view(0, no, 0), NONE));
            calls.add(new Call("walls from " + no, r -> r.walls(no, 0), NONE));
        }
        for (int cell : new int[] {-11, 11, LOW, HIGH}) {
            calls.add(new Call("image i " + cell, r -> r.image(0, cell, 0, 0), HIDDEN));
            calls.add(new Call("image j " + cell, r -> r.image(0, 0, cell, 0), HIDDEN));
            calls.add(new Call("far i " + cell, r -> r.far(0, cell, 0, 0), NONE));
            calls.add(new Call("far j " + cell, r -> r.far(0, 0, cell, 0), NONE));
            calls.add(new Call("lightOf i " + cell, r -> r.lightOf(0, cell, 0, 0), HIDDEN));
            calls.add(new Call("lightOf j " + cell, r -> r.lightOf(0, 0, cell, 0), HIDDEN));
            calls.add(new Call("seen i " + cell, r -> r.seen(0, cell, 0, 0), NONE));
            calls.add(new Call("seen j " + cell, r -> r.seen(0, 0, cell, 0), NONE));
        }
        for (int no : new int[] {-1, LOW, HIGH, 441}) {
            calls.add(new Call("near n " + no, r -> r.near(0, 0, no, 0), HIDDEN));
            calls.add(new Call("near what " + no, r -> r.near(0, 0, 0, no), HIDDEN));
            calls.add(new Call("image what " + no, r -> r.image(0, 0, 0, no), HIDDEN));
            calls.add(new Call("within " + no, r -> r.within(0, 0, no), NONE));
            calls.add(new Call("view " + no, r -> r.view(0, 0, no), NONE));
            calls.add(new Call("walls " + no, r -> r.walls(0, no), NONE));
        }
    }

    private static void addBallCalls(List<Call> calls, GlassRoom room) {
        for (int no : beyond(room)) {
            calls.add(new Call("hits from " + no, r -> r.hits(no, 1, 0, 0, 0), HIDDEN));
            calls.add(new Call("hits " + no, r -> r.hits(0, 1, 0, no, 0), HIDDEN));
            calls.add(new Call("ways from " + no, r -> r.ways(no, 0, 1), NONE));
            calls.add(new Call("ways to " + no, r -> r.ways(0, no, 1), NONE));
            calls.add(new Call("hang from " + no, r -> r.hang(no, 0, 0, 0), NONE));
            calls.add(new Call("hang of " + no, r -> r.hang(0, no, 0, 0), NONE));
            calls.add(new Call("pane from " + no, r -> r.pane(no, 0, 0), NONE));
        }
        for (int no : new int[] {-10, 10, LOW, HIGH}) {
            calls.add(new Call("hits right " + no, r -> r.hits(0, no, 1, 0, 0), HIDDEN));
            calls.add(new Call("hits up " + no, r -> r.hits(0, 1, no, 0, 0), HIDDEN));
            calls.add(new Call("round right " + no, r -> r.round(no, 1), NONE));
            calls.add(new Call("round up " + no, r -> r.round(1, no), NONE));
        }
        for (int no : new int[] {-1, 4, LOW, HIGH}) {
            calls.add(new Call("hits what " + no, r -> r.hits(0, 1, 0, 0, no), HIDDEN));
            calls.add(new Call("hang wall " + no, r -> r.hang(0, 1, no, 0), NONE));
            calls.add(new Call("hang part " + no, r -> r.hang(0, 1, 0, no), NONE));
            calls.add(new Call("pane wall " + no, r -> r.pane(0, no, 0), NONE));
            calls.add(new Call("pane part " + no, r -> r.pane(0, 0, no), NONE));
            calls.add(new Call("ways by " + no, r -> r.ways(0, 0, no == 4 ? 11 : no), NONE));
        }
        calls.add(new Call("hits nowhither", r -> r.hits(0, 0, 0, 0, 0), HIDDEN));
        calls.add(new Call("round nowhither", r -> r.round(0, 0), NONE));
        calls.add(new Call("hang of oneself", r -> r.hang(0, 0, 0, 0), NONE));
    }

    private static void addOthers(List<Call> calls, GlassRoom room) {
        int[][] hinges = {{0, 0, 0}, {1, 1, 0}, {181, 5, 0}, {90, 0, 0}, {90, 90, 1}, {90, 5, 2}, {90, 5, -1}, {LOW, HIGH, LOW}};
        for (int[] h : hinges) {
            calls.add(new Call("hinge " + h[0], r -> r.hinge(h[0], h[1], h[2]), NONE));
        }
        int[][] beads = {{0, 1}, {13, 1}, {1, 0}, {1, 5}, {LOW, HIGH}};
        for (int[] b : beads) {
            calls.add(new Call("beads " + b[0], r -> r.beads(b[0], b[1]), NONE));
        }
        int[] noIndexes = {-2, 500, LOW, HIGH};
        for (int no : noIndexes) {
            calls.add(new Call("angles i " + no, r -> r.angles(3, no), NONE));
            calls.add(new Call("fits " + no, r -> r.fits(no), NONE));
        }
        calls.add(new Call("angles of none", r -> r.angles(LOW, 0), NONE));
    }

    /** What asks only: it changes nothing, whatever it answers. */
    private static List<Call> asked() {
        List<Call> calls = new ArrayList<>();
        calls.add(new Call("feed of nothing", r -> r.feed(0, 0, 0, 0, 0), 0));
        calls.add(new Call("end of all", r -> r.end(r.count(6)) ? 1 : 0, 0));
        calls.add(new Call("fault 0", r -> r.fault(0), 0));
        calls.add(new Call("fault 1", r -> r.fault(1), 0));
        calls.add(new Call("light as it is", r -> r.light(r.count(7)) ? 1 : 0, 0));
        calls.add(new Call("image", r -> r.image(0, -3, 4, 0) + r.image(1, 1, 0, 4), 0));
        calls.add(new Call("far", r -> r.far(0, 10, -10, 1), 0));
        calls.add(new Call("lightOf", r -> r.lightOf(0, 10, -10, 1), 0));
        calls.add(new Call("near", r -> r.near(1, 0, 1, 2), 0));
        calls.add(new Call("within", r -> r.within(1, 0, 99), 0));
        calls.add(new Call("brighter", r -> r.brighter(1, 500), 0));
        calls.add(new Call("seen", r -> r.seen(1, 1, 0, 0), 0));
        calls.add(new Call("view", r -> r.view(1, 0, 6), 0));
        calls.add(new Call("walls", r -> r.walls(0, 3) + r.walls(0, 25), 0));
        calls.add(new Call("hits", r -> r.hits(0, 3, 1, 0, 1), 0));
        calls.add(new Call("round", r -> r.round(3, 7), 0));
        calls.add(new Call("ways", r -> r.ways(0, 1, 10), 0));
        calls.add(new Call("hang", r -> r.hang(0, 1, 3, 0), 0));
        calls.add(new Call("pane", r -> r.pane(0, 3, 0), 0));
        calls.add(new Call("hinge", r -> r.hinge(77, 5, 1), 0));
        calls.add(new Call("angles", r -> r.angles(7, 2), 0));
        calls.add(new Call("beads", r -> r.beads(7, 3), 0));
        calls.add(new Call("fits", r -> r.fits(NONE) + r.fits(3), 0));
        calls.add(new Call("count", r -> r.count(6), 0));
        return calls;
    }

    // ---- how it is found out

    private static void answersAsTold(State state, List<Call> calls) {
        for (Call call : calls) {
            Check.due(state.name + ": " + call.name, call.ask.of(state.make.room()), call.due);
        }
    }

    private static void changesNothing(State state, List<Call> calls) {
        for (TakeApart way : WAYS) {
            List<Long> want = new ArrayList<>();
            way.into(want, state.make.room());
            for (Call call : calls) {
                GlassRoom room = state.make.room();
                call.ask.of(room);
                compare(state.name + ", behind " + call.name, way, room, want);
            }
            // A hundred at once: an object is good for 512 calls.
            for (int from = 0; from < calls.size(); from += 100) {
                GlassRoom room = state.make.room();
                for (Call call : calls.subList(from, Math.min(from + 100, calls.size()))) {
                    call.ask.of(room);
                }
                compare(state.name + ", behind a hundred", way, room, want);
            }
        }
    }

    private static void compare(String what, TakeApart way, GlassRoom room, List<Long> want) {
        List<Long> got = new ArrayList<>();
        way.into(got, room);
        Check.due(what + ": how many answers", got.size(), want.size());
        for (int k = 0; k < Math.min(got.size(), want.size()); k++) {
            Check.due(what + ": answer " + k, got.get(k), want.get(k));
        }
    }

    // ---- how two objects are compared

    private static void lookAtAll(List<Long> answers, GlassRoom room) {
        for (int what = 0; what < 10; what++) {
            answers.add((long) room.count(what));
        }
        for (int body = 0; body < 7; body++) {
            for (int what = 0; what < 3; what++) {
                answers.add(Check.bodyThrows(room, body, what) ? Long.MAX_VALUE : room.body(body, what));
            }
            answers.add((long) room.image(body, 3, -2, 0));
            answers.add((long) room.image(body, 3, -2, 3));
            answers.add((long) room.image(body, 1, 1, 4));
            answers.add((long) room.lightOf(body, 2, 1, 0));
            answers.add((long) room.near(body, 0, 3, 2));
            answers.add((long) room.view(body, 0, 3));
        }
        answers.add((long) room.fault(0));
        answers.add((long) room.fault(1));
        for (int i = -1; i < 20; i++) {
            answers.add((long) room.fits(i));
        }
    }

    private static void places(List<Long> answers, GlassRoom room) {
        for (int body = 0; body < room.count(0); body++) {
            answers.add(100L * room.body(body, 0) + room.body(body, 1));
        }
        answers.add((long) room.count(3));
    }

    private static void undoAll(List<Long> answers, GlassRoom room) {
        for (int k = 0; k < 42; k++) {
            answers.add((long) room.undo());
            // One body in turn, as an object is good for 512 calls.
            if (room.count(0) > 0) {
                int body = k % room.count(0);
                answers.add(100L * room.body(body, 0) + room.body(body, 1));
            }
            answers.add((long) room.count(3));
        }
        places(answers, room);
    }

    private static void goBack(List<Long> answers, GlassRoom room) {
        answers.add((long) room.back());
        answers.add((long) room.undo());
        lookAtAll(answers, room);
    }

    private static void shortenTape(List<Long> answers, GlassRoom room) {
        int size = room.count(6);
        answers.add((long) size);
        for (int n = size; n >= 0; n -= 2) {
            answers.add(room.end(n) ? 1L : 0L);
            answers.add((long) room.fault(0));
            answers.add((long) room.fault(1));
        }
    }

    private static void tellHall(List<Long> answers, GlassRoom room) {
        room.end(0);
        Check.feed(room, "b;bx2y2");
        answers.add((long) room.text(0));
        answers.add((long) room.back());
        answers.add((long) room.undo());
        lookAtAll(answers, room);
    }

    private static void tellLights(List<Long> answers, GlassRoom room) {
        for (int k = 0; k < 5; k++) {
            room.end(0);
            answers.add((long) Check.addLight(room, "y:" + (k + 600) + "+n"));
            answers.add(room.light(k) ? 1L : 0L);
            answers.add((long) room.lightOf(0, 1, 0, 0));
        }
        lookAtAll(answers, room);
    }

    private static void tryLights(List<Long> answers, GlassRoom room) {
        for (int k = -1; k < 5; k++) {
            answers.add((long) room.lightOf(0, -1, 0, 0));
            answers.add(room.light(k) ? 1L : 0L);
            answers.add((long) room.lightOf(0, 2, 1, 0));
        }
    }

    private static void photograph(List<Long> answers, GlassRoom room) {
        for (int k = 0; k < 13; k++) {
            answers.add((long) room.fits(NONE));
            answers.add((long) room.fits(0));
            answers.add((long) room.photo(0, 5));
        }
    }

    private static void actOn(List<Long> answers, GlassRoom room) {
        answers.add((long) room.move(0, 0, 1));
        answers.add((long) room.steps(20, 4));
        answers.add((long) room.keep());
        answers.add((long) room.glass(6));
        undoAll(answers, room);
        answers.add((long) room.back());
        places(answers, room);
    }
}
