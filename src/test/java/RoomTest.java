/** Promises 8, 14 and 15: cycles, what is reached, when there is no room, and that every step is bounded. */
public final class RoomTest {
    private static final Due DUE = new Due();
    /** A class of 15 fields, 16 cells: an int, then references to it. */
    private static final int[] WIDE = {0, 1, 1, 1, 1, 1, 1, 1, 1, 1, 1, 1, 1, 1, 1};

    public static void main(String[] args) {
        dropped();
        grows(1024, 1, new int[] {31, 32, 64});
        grows(1500, 2, new int[] {61, 31, 47});
        deepFrames();
        sizes();
        reachedAtTheBeginning();
        deadValues();
        reversed();
        noRoomForFault();
        steadyFrames();
        newCells();
        DUE.finish();
    }

    private static SteadyMachine started(Maker maker, int h, int k) {
        SteadyMachine x = new SteadyMachine();
        DUE.due("the image is taken", maker.load(x) > 0, true);
        x.start(h, k);
        return x;
    }

    private static void told(String when, SteadyMachine x, int... due) {
        for (int what = 0; what < due.length; what++) {
            DUE.due(when + ": told(" + what + ")", x.told(what), due[what]);
        }
    }

    /** One object at a time is held on to. */
    private static void dropped() {
        Code code = new Code().mark("a").op(Op.NEW, 0, Op.STORE, 0).jump(Op.GOTO, "a");
        SteadyMachine x = started(new Maker().kind(255, WIDE).method(1, 1, code), 1024, 1);
        told("at first", x, 0, 1, 0, 16, 512);
        for (int i = 1; i <= 31; i++) {
            x.run(3);
            told("object " + i, x, 0, 1, 0, 16 + 16 * i, 512);
        }
        x.run(1);
        told("a cycle began", x, 1, 0, -1, 16, 512);
        x.run(2);
        told("and goes on", x, 1, 0, -1, 16, 512);
        x.run(3);
        told("and is done", x, 1, 1, 32, 32, 512);
        for (int i = 0; i < 28; i++) {
            x.run(3);
        }
        told("up to LIMIT", x, 1, 1, 32, 480, 512);
        x.run(1);
        told("the next one began", x, 2, 0, -1, 16, 512);
        DUE.due("steady()", x.steady(), true);
    }

    /** A chain that grows: so many links are made in each cycle, then there is no room. */
    private static void grows(int h, int k, int[] links) {
        Code code = new Code().op(Op.NULL, Op.STORE, 0).mark("a").op(Op.NEW, 0, Op.DUP, Op.LOAD, 0, Op.PUT, 0, 1,
            Op.STORE, 0).jump(Op.GOTO, "a");
        SteadyMachine x = started(new Maker().kind(255, WIDE).method(1, 3, code), h, k);
        x.run(2);
        int all = 0;
        int reached = 0;
        for (int cycle = 0; cycle < links.length; cycle++) {
            for (int i = 1; i <= links[cycle]; i++) {
                DUE.due("link", x.run(6), 6);
                int made = (cycle == 0 ? 16 : 0) + 16 * i;
                boolean done = k * made >= reached;
                told("cycle " + cycle + ", link " + i, x, cycle, done ? 1 : 0, done ? reached : -1, made);
            }
            all += links[cycle];
            reached = 16 + 16 * all;
        }
        DUE.due("R above LIMIT", x.told(2) > x.told(4), true);
        long steps = x.count(0);
        int made = x.told(3);
        DUE.due("no room", x.run(6), 0);
        DUE.due("state()", x.state(), 4);
        DUE.due("the step was not done", x.count(0), steps);
        DUE.due("nothing was made", x.told(3), made);
        DUE.due("run behind the end", x.run(1), -1);
        DUE.due("the frame is there", x.count(3), 1);
        DUE.due("its place", x.frame(0, 1), 3);
        DUE.due("its local", x.value(0, 0, 0, 0), 2);
        DUE.due("nothing flies", x.count(4), 0);
        DUE.due("steady()", x.steady(), true);
    }

    /** Frames are cells, too: 16 each. */
    private static void deepFrames() {
        SteadyMachine x = started(new Maker().kind(255, Maker.types())
            .method(0, 0, new Code().op(Op.CALL, 0, Op.RETURN)), 1024, 1);
        DUE.due("calls", x.run(20000), 31 + 32 + 64);
        DUE.due("state()", x.state(), 4);
        DUE.due("frames", x.count(3), 128);
        told("at the end", x, 2, 1, 1024, 1024, 512);
        DUE.due("the first frame's place", x.frame(127, 1), 0);
        DUE.due("no frame", x.frame(128, 1), -1);
    }

    /** What each thing that is made has in cells. */
    private static void sizes() {
        Code code = new Code().op(Op.NEW, 0, Op.POP, Op.NEW, 1, Op.POP).number(0).op(Op.ROW, 0, Op.POP).number(3375)
            .op(Op.ROW, 0, Op.STORE, 0, Op.LOAD, 0).number(0).number(1).op(Op.TO, Op.LOAD, 0).number(15).number(1)
            .op(Op.TO, Op.LOAD, 0).number(225).number(1).op(Op.TO, Op.LOAD, 0).number(224).op(Op.AT, Op.POP,
            Op.CALL, 1, Op.RETURN);
        SteadyMachine x = started(new Maker().kind(255, Maker.types()).kind(0, Maker.types(0, 1, 64)).method(1, 3, code)
            .method(0, 0, new Code().op(Op.RETURN)), 1024, 1);
        int[][] steps = {{1, 17}, {2, 21}, {3, 37}, {3, 53}, {4, 53}, {1, 69}, {1, 85}, {1, 85}, {3, 85}, {1, 101},
            {1, 101}, {3, 101}, {1, 117}, {1, 133}, {1, 133}, {4, 133}, {1, 149}, {1, 149}};
        for (int[] one : steps) {
            x.run(one[0]);
            DUE.due("made behind step " + x.count(0), x.told(3), one[1]);
        }
        x.run(1);
        DUE.due("state()", x.state(), 2);
        told("behind the end", x, 0, 1, 0, 149, 512);
    }

    /** A chain of 20 is dropped as soon as a cycle began: it counts in this one, not in the next. */
    private static void reachedAtTheBeginning() {
        Code code = new Code().op(Op.NULL, Op.STORE, 0).number(20).op(Op.STORE, 1).mark("chain");
        code.op(Op.NEW, 0, Op.DUP, Op.LOAD, 0, Op.PUT, 0, 1, Op.STORE, 0);
        code.op(Op.LOAD, 1).number(1).op(Op.SUB, Op.DUP, Op.STORE, 1).jumpIf(Op.IF, Op.GT, "chain");
        code.number(12).op(Op.STORE, 1).mark("more").op(Op.NEW, 0, Op.POP);
        code.op(Op.LOAD, 1).number(1).op(Op.SUB, Op.DUP, Op.STORE, 1).jumpIf(Op.IF, Op.GT, "more");
        code.op(Op.LOAD, 0).op(Op.NULL, Op.PUT, 0, 1, Op.NULL, Op.STORE, 0);
        code.mark("on").op(Op.NEW, 0, Op.POP).jump(Op.GOTO, "on");
        SteadyMachine x = started(new Maker().kind(255, WIDE).method(2, 3, code), 1024, 1);
        x.run(4 + 11 * 20 + 2 + 8 * 11);
        told("LIMIT is met", x, 0, 1, 0, 512, 512);
        x.run(1);
        told("the cycle began", x, 1, 0, -1, 16);
        x.run(7 + 5);
        DUE.due("the chain is dropped", x.value(0, 0, 0, 0), 1);
        for (int i = 2; i <= 20; i++) {
            x.run(3);
            told("object " + i, x, 1, 0, -1, 16 * i);
        }
        x.run(3);
        told("done", x, 1, 1, 16 + 20 * 16, 21 * 16);
        x.run(3);
        told("the next one", x, 2, 1, 16, 16);
    }

    /** What was popped is not reached; what lies in a local is, even where it is UNUSABLE. */
    private static void deadValues() {
        Code code = new Code().op(Op.NEW, 0, Op.NEW, 0, Op.NEW, 0, Op.POP, Op.POP, Op.POP).op(Op.IN)
            .jumpIf(Op.IF, Op.NE, "other").op(Op.NEW, 0, Op.STORE, 0).mark("other").number(27).op(Op.STORE, 1);
        code.mark("more").op(Op.NEW, 0, Op.POP, Op.LOAD, 1).number(1).op(Op.SUB, Op.DUP, Op.STORE, 1)
            .jumpIf(Op.IF, Op.GT, "more").op(Op.NEW, 0).mark("stay").op(Op.NEW, 0, Op.POP).jump(Op.GOTO, "stay");
        SteadyMachine x = started(new Maker().kind(255, WIDE).method(2, 3, code), 1024, 64);
        DUE.due("the local is UNUSABLE", x.stands(0, code.placeOf("other"), 1, 0), Op.UNUSABLE);
        DUE.due("but an object", x.run(10), 10);
        DUE.due("it is there", x.value(0, 0, 0, 0), 2);
        x.start(1024, 1);
        x.run(12 + 8 * 27);
        told("LIMIT is met", x, 0, 1, 0, 512);
        x.run(1);
        told("a cycle began", x, 1, 0, -1, 16);
        x.run(1);
        told("a frame and one object were reached", x, 1, 1, 32, 32);
    }

    /** A chain is turned around in place while it is being moved, again and again, and stays whole. */
    private static void reversed() {
        Code code = new Code().op(Op.NULL, Op.STORE, 0).number(40).op(Op.STORE, 1).mark("chain");
        code.op(Op.NEW, 0, Op.DUP, Op.LOAD, 0, Op.PUT, 0, 1, Op.DUP, Op.LOAD, 1, Op.PUT, 0, 0, Op.STORE, 0);
        code.op(Op.LOAD, 1).number(1).op(Op.SUB, Op.DUP, Op.STORE, 1).jumpIf(Op.IF, Op.GT, "chain");
        code.mark("turn").op(Op.NULL, Op.STORE, 2).mark("next").op(Op.LOAD, 0).jump(Op.IFNULL, "turned");
        code.op(Op.LOAD, 0, Op.GET, 0, 1, Op.STORE, 3, Op.LOAD, 0, Op.LOAD, 2, Op.PUT, 0, 1, Op.LOAD, 0, Op.STORE, 2)
            .op(Op.LOAD, 3, Op.STORE, 0, Op.NEW, 1, Op.POP).jump(Op.GOTO, "next");
        code.mark("turned").op(Op.LOAD, 2, Op.STORE, 0).number(0).op(Op.STORE, 1).mark("sum").op(Op.LOAD, 2)
            .jump(Op.IFNULL, "out").op(Op.LOAD, 1).number(3).op(Op.MUL, Op.LOAD, 2, Op.GET, 0, 0, Op.ADD, Op.STORE, 1)
            .op(Op.LOAD, 2, Op.GET, 0, 1, Op.STORE, 2).jump(Op.GOTO, "sum");
        code.mark("out").op(Op.LOAD, 1, Op.OUT).jump(Op.GOTO, "turn");
        int[] sums = new int[2];
        for (int i = 1; i <= 40; i++) {
            sums[0] = sums[0] * 3 + 41 - i;
            sums[1] = sums[1] * 3 + i;
        }
        for (int k = 1; k <= 64; k += 7) {
            SteadyMachine x = started(new Maker().kind(255, Maker.types(0, 1)).kind(255, new int[15])
                .method(4, 4, code), 1024, k);
            x.run(20000);
            x.run(20000);
            DUE.due("it goes on", x.state(), 1);
            DUE.due("there were cycles", x.told(0) > 3, true);
            DUE.due("it was turned", x.count(2) > 20, true);
            for (int i = 0; i < x.count(2); i++) {
                DUE.due("sum " + i, x.out(i), sums[i % 2]);
            }
            DUE.due("steady()", x.steady(), true);
        }
    }

    /** A fault makes an object: without room for it the run is over, and the step was not done. */
    private static void noRoomForFault() {
        Code code = new Code().op(Op.NULL, Op.STORE, 0).number(127).op(Op.STORE, 1).mark("a").op(Op.NEW, 0, Op.DUP,
            Op.LOAD, 0, Op.PUT, 0, 1, Op.STORE, 0, Op.LOAD, 1).number(1).op(Op.SUB, Op.DUP, Op.STORE, 1)
            .jumpIf(Op.IF, Op.GT, "a").number(1).number(0).op(Op.DIV, Op.RETURN);
        SteadyMachine x = started(new Maker().kind(255, WIDE).method(2, 3, code), 1024, 1);
        DUE.due("run", x.run(20000), 4 + 127 * 11 + 2);
        DUE.due("state()", x.state(), 4);
        DUE.due("nothing flies", x.count(4), 0);
        DUE.due("place", x.frame(0, 1), code.size() - 2);
        DUE.due("stack", x.frame(0, 2), 2);
    }

    /** Frames full of rows, called deep and left while they are moved. */
    private static void steadyFrames() {
        Code code = new Code();
        for (int i = 1; i < 8; i++) {
            code.number(15).op(Op.ROW, 1, Op.STORE, i);
        }
        code.op(Op.LOAD, 0).jumpIf(Op.IF, Op.LE, "back").op(Op.LOAD, 1, Op.LOAD, 2, Op.LOAD, 0).number(1)
            .op(Op.SUB, Op.CALL, 1, Op.LOAD, 7, Op.POP, Op.RETURN).mark("back").op(Op.RETURN);
        Code first = new Code().mark("a").number(25).op(Op.CALL, 1).jump(Op.GOTO, "a");
        for (int k = 1; k <= 64; k++) {
            SteadyMachine x = started(new Maker().kind(255, WIDE).method(0, 1, first)
                .method(255, Maker.types(Op.INT), 255, 8, 4, code), 9000, k);
            x.run(20000);
            x.run(20000);
            DUE.due("it goes on", x.state(), 1);
            DUE.due("there were cycles", x.told(0) > 3, true);
            DUE.due("steady()", x.steady(), true);
        }
    }

    /** Cells are used again cycle by cycle, and what is new in them is 0 or nothing. */
    private static void newCells() {
        Code code = new Code().mark("a").number(100).op(Op.ROW, 0, Op.STORE, 0).number(100).op(Op.ROW, 1, Op.STORE, 1)
            .op(Op.NEW, 0, Op.STORE, 2).op(Op.LOAD, 0).number(50).number(9).op(Op.TO, Op.LOAD, 1).number(50)
            .op(Op.LOAD, 2, Op.TO, Op.LOAD, 2).number(8).op(Op.PUT, 0, 0, Op.LOAD, 2, Op.LOAD, 2, Op.PUT, 0, 1)
            .op(Op.CALL, 1).jump(Op.GOTO, "a");
        Code called = new Code().number(7).op(Op.STORE, 0, Op.NEW, 0, Op.STORE, 1, Op.RETURN);
        SteadyMachine x = started(new Maker().kind(255, WIDE).method(3, 3, code).method(2, 1, called), 1024, 3);
        for (int i = 0; i < 200; i++) {
            DUE.due("up to the new object", x.run(8), 8);
            for (int item = 1; item <= 100; item++) {
                DUE.due("an int item", x.value(0, 0, item, 1), 0);
                DUE.due("an item", x.value(0, 1, item, 0), 1);
            }
            DUE.due("its int", x.value(0, 2, 1, 1), 0);
            DUE.due("its reference", x.value(0, 2, 2, 0), 1);
            DUE.due("up to the call", x.run(16), 16);
            for (int item = 46; item <= 60; item++) {
                DUE.due("an int item of the child", x.value(0, 0, item, 1), item == 51 ? 9 : 0);
                DUE.due("an item of the child", x.value(0, 1, item, 0), item == 51 ? 2 : 1);
            }
            x.run(1);
            DUE.due("the new frame's local", x.value(0, 0, 0, 1), 0);
            DUE.due("another one, an int", x.value(0, 1, 0, 0), 0);
            DUE.due("up to the end", x.run(6), 6);
        }
        DUE.due("there were cycles", x.told(0) > 10, true);
    }
}
