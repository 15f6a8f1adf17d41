/** Promises 11, 12 and 13: frames, values and their parts, and which are the same. */
public final class ViewTest {
    private static final Due DUE = new Due();
    private static final int A = 1;

    public static void main(String[] args) {
        frames();
        values();
        paths();
        longPaths();
        flying();
        same();
        whileCleared();
        DUE.finish();
    }

    private static SteadyMachine started(Maker maker, int steps) {
        SteadyMachine x = new SteadyMachine();
        DUE.due("the image is taken", maker.load(x) > 0, true);
        x.start(1024, 1);
        DUE.due("run", x.run(steps), steps);
        return x;
    }

    private static void kindOf(String what, SteadyMachine x, int k, long path, long... due) {
        for (int i = 0; i < 3; i++) {
            DUE.due(what + ": " + i, x.value(0, k, path, i), due[i]);
        }
        DUE.due(what + ": -1", x.value(0, k, path, -1), -1);
        DUE.due(what + ": 3", x.value(0, k, path, 3), -1);
    }

    private static void frames() {
        Code first = new Code().number(1).number(2).op(Op.CALL, 1, Op.RETURN);
        Code other = new Code().op(Op.NULL, Op.LOAD, 0, Op.CALL, 1, Op.RETURN);
        SteadyMachine x = started(new Maker().kind(255, Maker.types()).method(3, 2, first)
            .method(255, Maker.types(Op.INT), 255, 5, 4, other), 6);
        int[][] due = {{1, 0, 0, 5}, {1, 3, 1, 5}, {0, 10, 1, 3}};
        for (int f = 0; f < 3; f++) {
            for (int what = 0; what < 4; what++) {
                DUE.due("frame(" + f + ", " + what + ")", x.frame(f, what), due[f][what]);
            }
            DUE.due("frame(" + f + ", -1)", x.frame(f, -1), -1);
            DUE.due("frame(" + f + ", 4)", x.frame(f, 4), -1);
        }
        DUE.due("a parameter", x.value(0, 0, 0, 1), 2);
        DUE.due("of the second frame, on the stack", x.value(1, 5, 0, 0), 1);
        DUE.due("of the second frame, above the stack", x.value(1, 6, 0, 0), -1);
        DUE.due("of the third frame, on the stack", x.value(2, 3, 0, 1), 1);
        for (int f : new int[] {-2, -1, 3, Integer.MIN_VALUE, Integer.MAX_VALUE}) {
            DUE.due("frame(" + f + ", 0)", x.frame(f, 0), -1);
            DUE.due("value(" + f + ", 0, 0, 0)", x.value(f, 0, 0, 0), -1);
        }
    }

    private static void values() {
        Code code = new Code().number(-6).op(Op.STORE, 0, Op.NULL, Op.STORE, 1, Op.NEW, 1, Op.STORE, 2).number(5)
            .op(Op.ROW, 0, Op.STORE, 3).number(3000).op(Op.ROW, 1).number(-1).op(Op.RETURN);
        SteadyMachine x = started(new Maker().kind(255, Maker.types(Op.INT, A)).kind(0, Maker.types(64))
            .method(5, 2, code), 12);
        kindOf("an int", x, 0, 0, 0, -6, 0);
        kindOf("nothing", x, 1, 0, 1, 0, 0);
        kindOf("an object", x, 2, 0, 2, 1, 3);
        kindOf("a row of ints", x, 3, 0, 3, 5, 0);
        kindOf("a local not set", x, 4, 0, 0, 0, 0);
        kindOf("a row of a class", x, 5, 0, 4, 3000, 0);
        kindOf("the top of the stack", x, 6, 0, 0, -1, 0);
        kindOf("above the stack", x, 7, 0, -1, -1, -1);
        kindOf("below all", x, -1, 0, -1, -1, -1);
        kindOf("a field", x, 2, 1, 0, 0, 0);
        kindOf("a field that is nothing", x, 2, 3, 1, 0, 0);
        kindOf("no field", x, 2, 4, -1, -1, -1);
        kindOf("an item", x, 3, 5, 0, 0, 0);
        kindOf("no item", x, 3, 6, -1, -1, -1);
        kindOf("an item without children", x, 5, 3000, 1, 0, 0);
        kindOf("no item there", x, 5, 3001, -1, -1, -1);
        kindOf("part of an int", x, 0, 1, -1, -1, -1);
        kindOf("part of nothing", x, 1, 1, -1, -1, -1);
    }

    /** Objects that lead to themselves, so that every path has an end to tell. */
    private static void paths() {
        Code code = new Code().op(Op.NEW, 0, Op.STORE, 0, Op.LOAD, 0).number(42).op(Op.PUT, 0, 0, Op.LOAD, 0, Op.LOAD,
            0, Op.PUT, 0, 1).number(4).op(Op.ROW, 1, Op.STORE, 1, Op.LOAD, 1).number(3).op(Op.LOAD, 0, Op.TO,
            Op.LOAD, 0, Op.LOAD, 1, Op.PUT, 0, 2, Op.RETURN);
        SteadyMachine x = started(new Maker().kind(255, Maker.types(Op.INT, A, 65)).method(2, 3, code), 18);
        long self = 2;
        long row = 3;
        kindOf("its int", x, 0, 1, 0, 42, 0);
        kindOf("itself", x, 0, self, 2, 0, 3);
        kindOf("its row", x, 0, row, 4, 4, 0);
        kindOf("its int by itself", x, 0, self | 1 << 12, 0, 42, 0);
        kindOf("itself by its row", x, 0, row | 4 << 12, 2, 0, 3);
        kindOf("its int by its row", x, 0, row | 4 << 12 | 1 << 24, 0, 42, 0);
        kindOf("nothing in its row", x, 0, row | 1 << 12, 1, 0, 0);
        kindOf("a path ends at the first 0", x, 0, self | 0xFFFFFFFFFF000000L, 2, 0, 3);
        kindOf("a path that is 0 first", x, 0, 0xFFFFFFFFFFFFF000L, 2, 0, 3);
    }

    private static void longPaths() {
        int[] types = new int[15];
        types[14] = A;
        Code code = new Code().op(Op.NEW, 0, Op.STORE, 0, Op.LOAD, 0, Op.LOAD, 0, Op.PUT, 0, 14, Op.LOAD, 0).number(9)
            .op(Op.PUT, 0, 13, Op.RETURN);
        SteadyMachine x = started(new Maker().kind(255, types).method(1, 2, code), 8);
        long five = 15L | 15L << 12 | 15L << 24 | 15L << 36 | 15L << 48;
        kindOf("five parts", x, 0, five, 2, 0, 15);
        kindOf("six parts", x, 0, five | 15L << 60, 2, 0, 15);
        kindOf("six parts to an int", x, 0, five | 14L << 60, 0, 9, 0);
        kindOf("six parts to another int", x, 0, five | 1L << 60, 0, 0, 0);
        kindOf("parts behind an int", x, 0, 14L | 15L << 12, -1, -1, -1);
    }

    private static void flying() {
        Code code = new Code().op(Op.NEW, 1, Op.DUP, Op.STORE, 0, Op.LOAD, 0).number(3).op(Op.PUT, 0, 0, Op.THROW);
        SteadyMachine x = started(new Maker().kind(255, Maker.types(Op.INT)).kind(0, Maker.types())
            .method(1, 3, code), 6);
        DUE.due("nothing flies", x.value(-1, 0, 0, 0), -1);
        x.run(1);
        for (int i = 0; i < 2; i++) {
            DUE.due("flies: kind", x.value(-1, 0, 0, 0), 2);
            DUE.due("flies: class", x.value(-1, 0, 0, 1), 1);
            DUE.due("flies: fields", x.value(-1, 0, 0, 2), 1);
            DUE.due("flies: a field", x.value(-1, 0, 1, 1), 3);
            DUE.due("flies: no field", x.value(-1, 0, 2, 1), -1);
            DUE.due("flies: k = 1", x.value(-1, 1, 0, 0), -1);
            DUE.due("flies: k = -1", x.value(-1, -1, 0, 0), -1);
            DUE.due("flies: what = 3", x.value(-1, 0, 0, 3), -1);
            x.run(1);
        }
        DUE.due("uncaught", x.state(), 3);
    }

    private static void same() {
        Code code = new Code().op(Op.NEW, 0, Op.STORE, 0, Op.NEW, 0, Op.STORE, 1, Op.LOAD, 0, Op.STORE, 2, Op.NULL,
            Op.STORE, 3).number(0).op(Op.STORE, 4, Op.NULL, Op.LOAD, 1).number(1).op(Op.ROW, 0, Op.RETURN);
        SteadyMachine x = started(new Maker().kind(255, Maker.types()).method(6, 4, code), 14);
        int[][] alike = {{0, 2}, {3, 6}, {1, 7}, {0, 0}, {1, 1}, {2, 2}, {3, 3}, {6, 6}, {7, 7}, {8, 8}};
        for (int k = -1; k < 10; k++) {
            for (int other = -1; other < 10; other++) {
                boolean due = false;
                for (int[] pair : alike) {
                    due |= pair[0] == k && pair[1] == other || pair[1] == k && pair[0] == other;
                }
                DUE.due("same(" + k + ", " + other + ")", x.same(k, other), due);
            }
        }
    }

    /** A chain is seen whole and stays itself at every step of every cycle. */
    private static void whileCleared() {
        Code code = new Code();
        code.op(Op.NULL, Op.STORE, 0).number(12).op(Op.STORE, 1).mark("chain");
        code.op(Op.NEW, 0, Op.DUP, Op.LOAD, 0, Op.PUT, 0, 1, Op.STORE, 0, Op.LOAD, 0, Op.LOAD, 1, Op.PUT, 0, 0);
        code.op(Op.LOAD, 1).number(1).op(Op.SUB, Op.DUP, Op.STORE, 1).jumpIf(Op.IF, Op.GT, "chain");
        code.op(Op.LOAD, 0, Op.STORE, 2).mark("around").op(Op.NEW, 0, Op.POP).jump(Op.GOTO, "around");
        SteadyMachine x = started(new Maker().kind(255, Maker.types(Op.INT, A)).method(3, 3, code), 4 + 12 * 14 + 2);
        int last = 0;
        for (int i = 0; i < 3000; i++) {
            x.run(1);
            long path = 0;
            for (int j = 0; j < 5; j++) {
                DUE.due("link " + j, x.value(0, 0, path | 1L << 12 * j, 1), j + 1);
                path |= 2L << 12 * j;
            }
            DUE.due("both lead to it", x.same(0, 2), true);
            last = x.told(0);
        }
        DUE.due("there were cycles", last > 3, true);
    }
}
