/**
 * 'Terms', ROOM and STEADY, and promises 8, 14 and 15: how many cells each thing has, and, cell by cell, when a cycle
 * is done, when one begins, and when there is no room.
 */
public final class RoomBoundsTest {
    private static final Due DUE = new Due();
    /** The class of a chain's links: one field, of itself; class c has c fields. */
    private static final int LINK = 1;

    public static void main(String[] args) {
        limits();
        objectCells();
        frameCells();
        rowCells();
        firstCycle();
        beginsAboveLimit();
        beginsByWhatIsMade();
        doneAsSoonAs();
        noneBeginsBeforeItIsDone();
        reachedBeforeTheStep();
        reachedUpToLimit();
        reachedAboveLimit();
        noRoomForAnything();
        noRoomForNothingNew();
        reached();
        notReached();
        framesWhileMoved();
        largerAndSmaller();
        steadyAtTheEnds();
        DUE.finish();
    }

    private static Maker kinds() {
        Maker maker = new Maker();
        for (int c = 0; c <= 15; c++) {
            int[] fields = new int[c];
            if (c == LINK) {
                fields[0] = LINK + 1;
            }
            maker.kind(255, fields, c == 0 ? new int[] {0, 1} : new int[0]);
        }
        return maker;
    }

    private static Maker others(Maker maker) {
        return maker.method(0, Maker.types(), 255, 1, 0, new Code().op(Op.RETURN));
    }

    private static Maker world(int locals, int stack, Code code) {
        return others(kinds().method(locals, stack, code));
    }

    private static SteadyMachine started(Maker maker, int h, int k, int... inputs) {
        SteadyMachine x = new SteadyMachine();
        DUE.due("the image is taken", maker.load(x) > 0, true);
        for (int v : inputs) {
            x.input(v);
        }
        x.start(h, k);
        return x;
    }

    private static void told(String when, SteadyMachine x, int... due) {
        for (int what = 0; what < due.length; what++) {
            DUE.due(when + ": told(" + what + ")", x.told(what), due[what]);
        }
    }

    /** LIMIT is H * k / (k + 1), rounded down. */
    private static void limits() {
        for (int h : new int[] {1024, 1025, 1026, 1027, 30000, 59999, 60000}) {
            SteadyMachine x = started(world(0, 0, new Code().op(Op.RETURN)), h, 1);
            for (int k = 1; k <= 64; k++) {
                x.start(h, k);
                int limit = 0;
                while ((limit + 1) * (k + 1) <= h * k) {
                    limit++;
                }
                DUE.due("LIMIT of " + h + " and " + k, x.told(4), limit);
            }
        }
    }

    /** CELLS: an object 1 and 1 for each field. */
    private static void objectCells() {
        for (int fields = 0; fields <= 15; fields++) {
            SteadyMachine x = started(world(0, 1, new Code().op(Op.NEW, fields, Op.RETURN)), 1024, 1);
            x.run(1);
            DUE.due("an object of " + fields + " fields", x.told(3), 16 + 1 + fields);
            DUE.due("its fields", x.value(0, 0, 0, 2), fields);
        }
    }

    /** A frame 16, whatever it has. */
    private static void frameCells() {
        for (int locals = 0; locals <= 12; locals++) {
            Maker maker = world(locals, 12 - locals, new Code().op(Op.CALL, 2, Op.RETURN))
                .method(12 - locals, locals, new Code().op(Op.RETURN));
            SteadyMachine x = started(maker, 1024, 1);
            DUE.due("the first frame", x.told(3), 16);
            x.run(1);
            DUE.due("another frame", x.told(3), 32);
            DUE.due("its locals", x.frame(0, 3), 12 - locals);
            x.run(1);
            DUE.due("one that was left", x.told(3), 32);
        }
    }

    /** A row 16, and 16 for each child (which RunBoundsTest counts). */
    private static void rowCells() {
        for (int length : new int[] {0, 1, 15, 16, 225, 226, 3375}) {
            for (int type : new int[] {0, 1, 16}) {
                Code code = new Code().number(length).op(Op.ROW, type, Op.RETURN);
                SteadyMachine x = started(world(0, 1, code), 1024, 1);
                x.run(2);
                DUE.due("a row of " + length, x.told(3), 32);
            }
        }
    }

    /** Makes as many links of a chain (2 cells each), kept in local 1, as an input tells: 6 steps and 12 a link. */
    private static Code links(Code code) {
        return code.op(Op.NULL, Op.STORE, 1, Op.IN, Op.STORE, 0).mark("link").op(Op.LOAD, 0)
            .jumpIf(Op.IF, Op.LE, "linked").op(Op.NEW, LINK, Op.DUP, Op.LOAD, 1, Op.PUT, LINK, 0, Op.STORE, 1)
            .op(Op.LOAD, 0).number(1).op(Op.SUB, Op.STORE, 0).jump(Op.GOTO, "link").mark("linked");
    }

    /** Makes as many objects of 1 cell, none of them kept, as an input tells: 4 steps and 9 an object. */
    private static Code drops(Code code) {
        return code.op(Op.IN, Op.STORE, 0).mark("drop").op(Op.LOAD, 0).jumpIf(Op.IF, Op.LE, "dropped")
            .op(Op.NEW, 0, Op.POP, Op.LOAD, 0).number(1).op(Op.SUB, Op.STORE, 0).jump(Op.GOTO, "drop")
            .mark("dropped");
    }

    private static Code append(Code code, Code more) {
        return code.op(more.done().stream().mapToInt(Integer::intValue).toArray());
    }

    /** Between both, one object of 1 cell is kept in local 2 if the second input is not 0; then more comes. */
    private static Code making(Code more) {
        Code code = links(new Code()).op(Op.IN).jumpIf(Op.IF, Op.EQ, "kept").op(Op.NEW, 0, Op.STORE, 2).mark("kept");
        return append(drops(code), more);
    }

    private static int stepsOf(int links, int kept, int dropped) {
        return 6 + 12 * links + 2 + 2 * kept + 4 + 9 * dropped;
    }

    /** The program above, run up to where more comes. */
    private static SteadyMachine made(int h, int k, int links, int kept, int dropped, Code more) {
        SteadyMachine x = started(world(3, 4, making(more)), h, k, links, kept, dropped);
        int left = stepsOf(links, kept, dropped);
        for (int i = 0; i < 100 && left > 0; i++) {
            int n = Math.min(20000, left);
            DUE.due("run(" + n + ")", x.run(n), n);
            left -= n;
        }
        DUE.due("it goes on", x.state(), 1);
        return x;
    }

    private static Code dropOne() {
        return new Code().op(Op.NEW, 0, Op.POP, Op.RETURN);
    }

    /** The first one has R = 0: it is done before anything more is made, with the first frame in it. */
    private static void firstCycle() {
        for (int k : new int[] {1, 64}) {
            SteadyMachine x = made(1024, k, 0, 0, 0, dropOne());
            told("the first cycle", x, 0, 1, 0, 16);
            x.run(1);
            told("one cell more", x, 0, 1, 0, 17);
        }
    }

    /** When R + made + n is above LIMIT, a new cycle begins: at LIMIT it does not. */
    private static void beginsAboveLimit() {
        int[][] limits = {{1024, 1, 512}, {1025, 64, 1009}, {1500, 2, 1000}};
        for (int[] one : limits) {
            int dropped = one[2] - 16;
            SteadyMachine below = made(one[0], one[1], 0, 0, dropped - 1, dropOne());
            told("below LIMIT", below, 0, 1, 0, one[2] - 1, one[2]);
            below.run(1);
            told("up to LIMIT", below, 0, 1, 0, one[2], one[2]);
            SteadyMachine at = made(one[0], one[1], 0, 0, dropped, dropOne());
            told("at LIMIT", at, 0, 1, 0, one[2], one[2]);
            at.run(1);
            DUE.due("above LIMIT: a cycle began", at.told(0), 1);
            DUE.due("above LIMIT: made", at.told(3), 1);
        }
        // In a later cycle R counts as well: 16 cells of the frame.
        SteadyMachine later = made(1024, 1, 0, 0, 496 + 496, dropOne());
        told("at LIMIT again", later, 1, 1, 16, 496, 512);
        later.run(1);
        told("above LIMIT again", later, 2, 0, -1, 1, 512);
    }

    /** MAKING n cells, of n each: a frame, an object, a row, a child. */
    private static void beginsByWhatIsMade() {
        beginsWith("an object of 3 cells", 3, 1, new Code().op(Op.NEW, 2, Op.RETURN));
        beginsWith("an object of 16 cells", 16, 1, new Code().op(Op.NEW, 15, Op.RETURN));
        beginsWith("a frame", 16, 2, new Code().op(Op.NULL, Op.CALL, 1, Op.RETURN));
        beginsWith("a row", 16, 2, new Code().number(5).op(Op.ROW, 0, Op.RETURN));
        beginsWith("an object of THROWN 2", 1, 3, new Code().number(5).number(0).op(Op.DIV, Op.RETURN));
        // The row itself has 16 before its child.
        int limit = 512;
        for (int above : new int[] {0, 1}) {
            Code code = new Code().number(16).op(Op.ROW, 0).number(0).number(0).op(Op.TO, Op.RETURN);
            SteadyMachine x = made(1024, 1, 0, 0, limit - 48 + above, code);
            x.run(4);
            told("before a child", x, 0, 1, 0, limit - 16 + above);
            x.run(1);
            told("a child", x, above, above == 0 ? 1 : 0, above == 0 ? 0 : -1, above == 0 ? limit : 16);
        }
    }

    /** The last of some steps makes n cells: just up to LIMIT, and then one cell above it. */
    private static void beginsWith(String what, int n, int steps, Code more) {
        int limit = 512;
        for (int above : new int[] {0, 1}) {
            SteadyMachine x = made(1024, 1, 0, 0, limit - 16 - n + above, more);
            x.run(steps - 1);
            told(what + ": before", x, 0, 1, 0, limit - n + above);
            DUE.due(what, x.run(1), 1);
            DUE.due(what + ": cycles", x.told(0), above);
            DUE.due(what + ": made", x.told(3), above == 0 ? limit : n);
        }
    }

    /** It is DONE as soon as k * made >= R: then told(2) is R, and before it NONE. */
    private static void doneAsSoonAs() {
        for (int k : new int[] {1, 2, 3, 7, 63, 64}) {
            int limit = 1024 * k / (k + 1);
            for (int links = 20; links <= 24; links++) {
                int reached = 16 + 2 * links;
                // Up to LIMIT in the first cycle, then just below what is needed in the second.
                int first = limit - reached;
                int needed = (reached + k - 1) / k;
                SteadyMachine x = made(1024, k, links, 0, first + needed - 1, dropOne());
                String when = "k = " + k + ", R = " + reached;
                if (needed > 1) {
                    told(when + ", not done", x, 1, 0, -1, needed - 1);
                } else {
                    told(when + ", not begun", x, 0, 1, 0, limit);
                }
                x.run(1);
                told(when + ", done", x, 1, 1, reached, needed);
            }
        }
    }

    /** A new cycle begins when the one before is done, and not before, however far above LIMIT. */
    private static void noneBeginsBeforeItIsDone() {
        int links = 248;
        SteadyMachine before = made(1024, 1, links, 0, 511, dropOne());
        told("R is LIMIT, not done", before, 1, 0, -1, 511, 512);
        before.run(1);
        told("R is LIMIT, done", before, 1, 1, 512, 512, 512);
        SteadyMachine behind = made(1024, 1, links, 0, 512, dropOne());
        behind.run(1);
        told("the next one began", behind, 2, 0, -1, 1, 512);
    }

    /** R is what is reached before the step: what the step makes is not in it, and what it takes still is. */
    private static void reachedBeforeTheStep() {
        Code code = new Code().op(Op.NEW, 0, Op.STORE, 2).op(Op.NEW, 3, Op.POP, Op.NEW, 15, Op.POP, Op.RETURN);
        SteadyMachine x = made(1024, 64, 0, 0, 1008 - 16, code);
        told("at LIMIT", x, 0, 1, 0, 1008);
        x.run(1);
        told("the new object is not in R", x, 1, 1, 16, 1);
        // A frame is made as the cycle begins: the caller's stack has the parameter still, and a row of 16 more.
        Code called = new Code().op(Op.NEW, 0, Op.CALL, 1, Op.RETURN);
        SteadyMachine y = made(1024, 64, 0, 0, 1008 - 16 - 1, called);
        y.run(1);
        told("at LIMIT", y, 0, 1, 0, 1008);
        y.run(1);
        told("the parameter is in R", y, 1, 1, 17, 16);
        // The length that ROW needs is no reference, the row that TO needs is.
        Code child = new Code().number(16).op(Op.ROW, 0).number(0).number(0).op(Op.TO, Op.RETURN);
        SteadyMachine z = made(1024, 64, 0, 0, 1008 - 16 - 16, child);
        z.run(5);
        told("the row is in R", z, 1, 1, 32, 16);
    }

    /** There is NO ROOM when R is above LIMIT: at LIMIT there is, cycle after cycle. */
    private static void reachedUpToLimit() {
        SteadyMachine x = made(1024, 1, 248, 0, 5 * 512, dropOne());
        told("R is LIMIT", x, 5, 1, 512, 512, 512);
        x.run(1);
        told("the next one", x, 6, 0, -1, 1, 512);
        SteadyMachine y = made(1500, 2, 492, 0, 5 * 500, dropOne());
        told("R is LIMIT for k = 2", y, 5, 1, 1000, 500, 1000);
        DUE.due("it goes on", y.run(3), 3);
        DUE.due("up to its end", y.state(), 2);
    }

    /** One cell more is NO ROOM: not before the cycle is done, and then at the next making, which was not done. */
    private static void reachedAboveLimit() {
        // The object that is kept is made in the second cycle, of R = 512; the third has R = 513.
        SteadyMachine before = made(1024, 1, 248, 1, 511 + 512, dropOne());
        told("R is above LIMIT, not done", before, 2, 0, -1, 512, 512);
        DUE.due("there is room", before.run(1), 1);
        told("R is above LIMIT, done", before, 2, 1, 513, 513, 512);
        DUE.due("nothing more is made", before.run(2), 2);
        DUE.due("it returned", before.state(), 2);

        SteadyMachine x = made(1024, 1, 248, 1, 511 + 513, dropOne());
        told("done", x, 2, 1, 513, 513, 512);
        long steps = x.count(0);
        DUE.due("no room", x.run(20000), 0);
        DUE.due("state()", x.state(), 4);
        DUE.due("steps", x.count(0), steps);
        told("as before", x, 2, 1, 513, 513, 512);
        DUE.due("run(0)", x.run(0), -1);
        DUE.due("run(1)", x.run(1), -1);
        DUE.due("a run can begin again", x.start(1024, 1), true);
        DUE.due("it goes on", x.state(), 1);

        // For k = 2 the second cycle is done with 500 made, one of them kept; the third with 501.
        SteadyMachine y = made(1500, 2, 492, 1, 499 + 501, dropOne());
        told("k = 2: done", y, 2, 1, 1001, 501, 1000);
        DUE.due("k = 2: no room", y.run(1), 0);
        DUE.due("k = 2: state()", y.state(), 4);
    }

    /** The run is over, and the step was not done: for each instruction that makes cells. */
    private static void noRoomForAnything() {
        noRoomFor("NEW", new Code().mark("op").op(Op.NEW, 3, Op.RETURN));
        noRoomFor("NEW of one cell", new Code().mark("op").op(Op.NEW, 0, Op.RETURN));
        noRoomFor("ROW", new Code().number(4).mark("op").op(Op.ROW, 0, Op.RETURN));
        noRoomFor("CALL", new Code().op(Op.NULL).mark("op").op(Op.CALL, 1, Op.RETURN));
        noRoomFor("SEND", new Code().op(Op.LOAD, 2, Op.CAST, 0).mark("op").op(Op.SEND, 0, 0, Op.RETURN));
        noRoomFor("a fault", new Code().number(4).number(0).mark("op").op(Op.REM, Op.RETURN));
        noRoomFor("THROW of nothing", new Code().op(Op.NULL).mark("op").op(Op.THROW));
        noRoomFor("ROW too long", new Code().number(3376).mark("op").op(Op.ROW, 0, Op.RETURN));
        noRoomFor("GET of nothing", new Code().op(Op.NULL).mark("op").op(Op.GET, LINK, 0, Op.RETURN));
        noRoomFor("CAST", new Code().op(Op.LOAD, 1).mark("op").op(Op.CAST, 0, Op.RETURN));
    }

    private static void noRoomFor(String what, Code more) {
        Code code = drops(links(new Code()).op(Op.NEW, 0, Op.STORE, 2));
        append(code, more);
        int op = code.placeOf("dropped") + more.placeOf("op");
        SteadyMachine x = started(world(3, 4, code), 1024, 1, 248, 511 + 513);
        x.run(6 + 12 * 248 + 2 + 4 + 9 * (511 + 513));
        for (int i = 0; i < 5 && x.frame(0, 1) != op; i++) {
            x.run(1);
        }
        told(what + ": done", x, 2, 1, 513, 513, 512);
        DUE.due(what + ": place", x.frame(0, 1), op);
        String before = Seen.of(x, false);
        DUE.due(what + ": no step", x.run(5), 0);
        DUE.due(what + ": state()", x.state(), 4);
        DUE.due(what + ": all else is as it was", Seen.of(x, false).equals(before), true);
        DUE.due(what + ": nothing flies", x.count(4), 0);
        DUE.due(what + ": one frame", x.count(3), 1);
    }

    /** A child is made as well, and without room TO is not done; what makes nothing still has room. */
    private static void noRoomForNothingNew() {
        // The row has 16 cells of its own: with 240 links R is 512 as the second cycle begins.
        Code code = new Code().number(20).op(Op.ROW, 0, Op.STORE, 3);
        drops(links(code).op(Op.NEW, 0, Op.STORE, 2)).op(Op.LOAD, 3, Op.LENGTH, Op.OUT, Op.LOAD, 3).number(19)
            .op(Op.AT, Op.OUT, Op.LOAD, 3).number(19).number(8).mark("op").op(Op.TO, Op.RETURN);
        SteadyMachine x = started(world(4, 4, code), 1024, 1, 240, 511 + 513);
        x.run(3 + 6 + 12 * 240 + 2 + 4 + 9 * (511 + 513));
        told("done", x, 2, 1, 513, 513, 512);
        DUE.due("what makes nothing is done", x.run(10), 10);
        DUE.due("LENGTH", x.out(0), 20);
        DUE.due("AT", x.out(1), 0);
        DUE.due("TO is next", x.frame(0, 1), code.placeOf("op"));
        String before = Seen.of(x, false);
        DUE.due("TO", x.run(1), 0);
        DUE.due("state()", x.state(), 4);
        DUE.due("all else is as it was", Seen.of(x, false).equals(before), true);
    }

    /** Goes on making what is not kept until another cycle is done: R is told then. */
    private static int reachedBy(int locals, int stack, Code code) {
        code.mark("drop").op(Op.NEW, 0, Op.POP).jump(Op.GOTO, "drop");
        return reachedAtLast(started(world(locals, stack, code), 1024, 64));
    }

    private static int reachedAtLast(SteadyMachine x) {
        x.run(4000);
        for (int i = 0; i < 400 && x.told(1) == 0; i++) {
            x.run(1);
        }
        DUE.due("there were cycles", x.told(0) > 0, true);
        return x.told(2);
    }

    /** REACHED is the top frame and what it leads to. */
    private static void reached() {
        DUE.due("the frame alone", reachedBy(0, 1, new Code()), 16);
        DUE.due("a local", reachedBy(1, 1, new Code().op(Op.NEW, 4, Op.STORE, 0)), 16 + 5);
        DUE.due("the last local", reachedBy(11, 1, new Code().op(Op.NEW, 4, Op.STORE, 10)), 16 + 5);
        DUE.due("the stack", reachedBy(0, 2, new Code().op(Op.NEW, 4)), 16 + 5);
        DUE.due("eleven on the stack", reachedBy(0, 12, new Code().op(Op.NEW, 0, Op.NEW, 0, Op.NEW, 0, Op.NEW, 0,
            Op.NEW, 0, Op.NEW, 0, Op.NEW, 0, Op.NEW, 0, Op.NEW, 0, Op.NEW, 0, Op.NEW, 0)), 16 + 11);
        DUE.due("the same twice", reachedBy(1, 2, new Code().op(Op.NEW, 4, Op.DUP, Op.STORE, 0)), 16 + 5);
        DUE.due("a field", reachedBy(1, 3, new Code().op(Op.NEW, LINK, Op.DUP, Op.STORE, 0, Op.NEW, LINK, Op.PUT,
            LINK, 0)), 16 + 4);
        DUE.due("a field that leads back", reachedBy(1, 3, new Code().op(Op.NEW, LINK, Op.DUP, Op.STORE, 0, Op.LOAD,
            0, Op.PUT, LINK, 0)), 16 + 2);
        int[][] rows = {{0, 0, 0}, {15, 14, 0}, {16, 15, 1}, {225, 224, 1}, {226, 225, 2}, {3375, 3374, 2}};
        for (int[] one : rows) {
            Code row = new Code().number(one[0]).op(Op.ROW, 1, Op.STORE, 0);
            if (one[0] > 0) {
                row.op(Op.LOAD, 0).number(one[1]).op(Op.NEW, 0, Op.TO);
            }
            int due = 16 + 16 + 16 * one[2] + (one[0] > 0 ? 1 : 0);
            DUE.due("a row of " + one[0] + ", its children and an item", reachedBy(1, 4, row), due);
        }
        frames();
    }

    /** By the frame that called, and what it has in locals and on its stack. */
    private static void frames() {
        Code loop = new Code().mark("drop").op(Op.NEW, 0, Op.POP).jump(Op.GOTO, "drop");
        Code first = new Code().op(Op.NEW, 4, Op.STORE, 0, Op.NEW, 5, Op.CALL, 1, Op.RETURN);
        Code second = new Code().op(Op.NEW, 6, Op.STORE, 0, Op.NEW, 7, Op.CALL, 2, Op.RETURN);
        Maker maker = new Maker();
        for (int c = 0; c <= 7; c++) {
            maker.kind(255, new int[c]);
        }
        maker.method(1, 1, first).method(1, 1, second).method(0, 1, loop);
        SteadyMachine x = started(maker, 1024, 64);
        DUE.due("three frames and what they have", reachedAtLast(x), 3 * 16 + 5 + 6 + 7 + 8);
        DUE.due("frames", x.count(3), 3);
    }

    /** What was popped, overwritten or left is not. */
    private static void notReached() {
        DUE.due("popped", reachedBy(0, 2, new Code().op(Op.NEW, 4, Op.NEW, 5, Op.POP, Op.POP)), 16);
        DUE.due("a local overwritten", reachedBy(1, 1, new Code().op(Op.NEW, 4, Op.STORE, 0, Op.NEW, 0, Op.STORE,
            0)), 16 + 1);
        DUE.due("a local that is an int again", reachedBy(1, 1, new Code().op(Op.NEW, 4, Op.STORE, 0, Op.IN,
            Op.STORE, 0)), 16);
        DUE.due("a field overwritten", reachedBy(1, 3, new Code().op(Op.NEW, LINK, Op.DUP, Op.STORE, 0, Op.NEW, LINK,
            Op.PUT, LINK, 0, Op.LOAD, 0, Op.NULL, Op.PUT, LINK, 0)), 16 + 2);
        Code item = new Code().number(20).op(Op.ROW, 1, Op.STORE, 0, Op.LOAD, 0).number(19).op(Op.NEW, 0, Op.TO,
            Op.LOAD, 0).number(19).op(Op.NULL, Op.TO);
        DUE.due("an item overwritten, but its child stays", reachedBy(1, 4, item), 16 + 32);
        DUE.due("a frame that was left", reachedBy(0, 2, new Code().op(Op.NEW, 0, Op.CALL, 1)), 16);
        DUE.due("a local may be reached that is UNUSABLE", reachedBy(1, 2, new Code().op(Op.IN)
            .jumpIf(Op.IF, Op.NE, "b").op(Op.NEW, 4, Op.STORE, 0).mark("b")), 16 + 5);
    }

    /** Frames are called, left and thrown through while a long chain is moved: step by step as the model has them. */
    private static void framesWhileMoved() {
        Code first = links(new Code()).mark("around").op(Op.NEW, 0).number(30).number(4).op(Op.CALL, 1, Op.STORE, 0)
            .mark("from").op(Op.LOAD, 1, Op.CALL, 2).mark("to").op(Op.NEW, 3, Op.POP).jump(Op.GOTO, "around")
            .mark("caught").op(Op.STORE, 2).jump(Op.GOTO, "around");
        Code second = new Code().op(Op.NEW, LINK, Op.STORE, 3, Op.LOAD, 3, Op.NULL, Op.CALL, 3, Op.POP, Op.LOAD, 1,
            Op.LOAD, 2, Op.SUB, Op.GIVE);
        Code third = new Code().op(Op.LOAD, 0, Op.GET, LINK, 0, Op.STORE, 1, Op.NULL, Op.LOAD, 1, Op.CALL, 3,
            Op.POP, Op.NEW, 0, Op.THROW);
        Code fourth = new Code().op(Op.NEW, 0, Op.STORE, 2, Op.LOAD, 1, Op.GIVE);
        for (int k : new int[] {1, 2, 5}) {
            Maker maker = kinds().method(3, 4, first).handler("from", "to", 0, "caught")
                .method(0, Maker.types(0, 0), Op.INT, 4, 3, second)
                .method(255, Maker.types(LINK + 1), 255, 2, 3, third)
                .method(255, Maker.types(LINK + 1, LINK + 1), LINK + 1, 3, 1, fourth);
            // By the number of links cycles begin in one or another of the methods.
            for (int links = 90; links < 100; links++) {
                likeModel(maker, k, links, 1500);
            }
        }
    }

    private static void likeModel(Maker maker, int k, int links, int steps) {
        SteadyMachine x = started(maker, 1024, k, links);
        Model y = new Model();
        int[] image = maker.image();
        for (int from = 0; from < image.length; from += 20) {
            int[] n = Maker.numbers(image, from);
            y.feed(n[0], n[1], n[2], n[3], n[4]);
        }
        DUE.due("the model takes it", y.end(image.length) > 0, true);
        y.input(links);
        y.start(1024, k);
        DUE.due("run", x.run(6 + 12 * links), y.run(6 + 12 * links));
        for (int i = 0; i < steps; i++) {
            DUE.due("run(1)", x.run(1), y.run(1));
            for (int what = 0; what <= 3; what++) {
                DUE.due("step " + i + ": told(" + what + ")", x.told(what), y.told(what));
                DUE.due("step " + i + ": frame(0, " + what + ")", x.frame(0, what), y.frame(0, what));
                DUE.due("step " + i + ": frame(1, " + what + ")", x.frame(1, what), y.frame(1, what));
            }
            for (int v = 0; v < 7; v++) {
                DUE.due("step " + i + ": value " + v, x.value(0, v, 0, 0), y.value(0, v, 0, 0));
                DUE.due("step " + i + ": a part of " + v, x.value(0, v, 1 | 1 << 12, 0), y.value(0, v, 1 | 1 << 12, 0));
            }
            DUE.due("step " + i + ": frames", x.count(3), y.count(3));
        }
        DUE.due("there were cycles", x.told(0) > 1, true);
        DUE.due("steady()", x.steady(), true);
    }

    /** One object has runs with more and with fewer cells, one behind the other. */
    private static void largerAndSmaller() {
        Code code = new Code().op(Op.NULL, Op.STORE, 0).mark("a").op(Op.NEW, LINK, Op.DUP, Op.LOAD, 0, Op.PUT, LINK, 0,
            Op.STORE, 0).jump(Op.GOTO, "a");
        SteadyMachine x = started(world(1, 3, code), 1024, 1);
        int[] sizes = {1024, 1500, 5000, 1024, 7000, 60000, 30000, 1024};
        for (int h : sizes) {
            x.start(h, 1);
            for (int i = 0; i < 60 && x.state() == 1; i++) {
                x.run(20000);
            }
            SteadyMachine fresh = started(world(1, 3, code), h, 1);
            for (int i = 0; i < 60 && fresh.state() == 1; i++) {
                fresh.run(20000);
            }
            DUE.due("H = " + h + ": state()", x.state(), 4);
            DUE.due("H = " + h + ": as a new object", Seen.of(x, true).equals(Seen.of(fresh, true)), true);
        }
    }

    /** STEADY: a chain grows until there is no room, with the least and the most H and k. */
    private static void steadyAtTheEnds() {
        for (int h : new int[] {1024, 60000}) {
            for (int k : new int[] {1, 2, 63, 64}) {
                grows(h, k, LINK);
                grows(h, k, 15);
            }
        }
    }

    /** Links of class 1, or of class 15, whose fields are ints here but one; how many is told by numbers alone. */
    private static void grows(int h, int k, int kind) {
        Maker maker = new Maker();
        for (int c = 0; c <= 15; c++) {
            int[] fields = new int[c];
            if (c > 0) {
                fields[c - 1] = c + 1;
            }
            maker.kind(255, fields);
        }
        Code code = new Code().op(Op.NULL, Op.STORE, 0).mark("a").op(Op.NEW, kind, Op.DUP, Op.LOAD, 0, Op.PUT, kind,
            kind - 1, Op.STORE, 0).jump(Op.GOTO, "a");
        SteadyMachine x = started(maker.method(1, 3, code), h, k);
        int links = 0;
        int cells = kind + 1;
        long limit = (long) h * k / (k + 1);
        long reached = 0;
        long made = 16;
        int cycles = 0;
        for (boolean room = true; room;) {
            boolean done = k * made >= reached;
            room = !done || reached <= limit;
            if (room && done && reached + made + cells > limit) {
                reached = 16 + (long) links * cells;
                made = 0;
                cycles++;
            }
            made += room ? cells : 0;
            links += room ? 1 : 0;
        }
        for (int i = 0; i < 400 && x.state() == 1; i++) {
            x.run(20000);
        }
        String when = "H = " + h + ", k = " + k + ", class " + kind;
        DUE.due(when + ": state()", x.state(), 4);
        DUE.due(when + ": steps", x.count(0), 2 + 6L * links);
        told(when, x, cycles, 1, (int) reached, (int) made, (int) limit);
        DUE.due(when + ": steady()", x.steady(), true);
        long path = 0;
        for (int i = 0; i < 5; i++) {
            path = path << 12 | kind;
        }
        DUE.due(when + ": a link far on", x.value(0, 0, path, 1), kind);
    }
}
