/** Promises 1, 2, 4 to 10: the tape, inputs, outputs, a run's beginning and end, and what is counted. */
public final class FaceTest {
    private static final Due DUE = new Due();

    public static void main(String[] args) {
        newObject();
        feeding();
        ending();
        inputsAndOutputs();
        clearedInputs();
        starting();
        running();
        uncaught();
        counting();
        earlierImages();
        DUE.finish();
    }

    private static Maker plain(int locals, int stack, Code code) {
        return new Maker().kind(255, Maker.types()).method(locals, stack, code);
    }

    private static SteadyMachine loaded(Maker maker) {
        SteadyMachine x = new SteadyMachine();
        DUE.due("end", maker.load(x) >= 0, true);
        return x;
    }

    private static void withoutRun(String when, SteadyMachine x) {
        DUE.due(when + ": state()", x.state(), 0);
        for (int what = 0; what < 5; what++) {
            DUE.due(when + ": count(" + what + ")", x.count(what), 0);
            DUE.due(when + ": told(" + what + ")", x.told(what), -1);
        }
        DUE.due(when + ": run(0)", x.run(0), -1);
        DUE.due(when + ": out(0)", x.out(0), 0);
        DUE.due(when + ": frame(0, 0)", x.frame(0, 0), -1);
        DUE.due(when + ": value(0, 0, 0, 0)", x.value(0, 0, 0, 0), -1);
        DUE.due(when + ": value(-1, 0, 0, 0)", x.value(-1, 0, 0, 0), -1);
        DUE.due(when + ": same(0, 0)", x.same(0, 0), false);
        DUE.due(when + ": steady()", x.steady(), true);
    }

    private static void withoutImage(String when, SteadyMachine x) {
        withoutRun(when, x);
        DUE.due(when + ": count(5)", x.count(5), 0);
        DUE.due(when + ": count(6)", x.count(6), 0);
        DUE.due(when + ": stands(0, 0, 0, 0)", x.stands(0, 0, 0, 0), -1);
        DUE.due(when + ": start(2000, 2)", x.start(2000, 2), false);
    }

    private static void newObject() {
        DUE.due("NONE", SteadyMachine.NONE, -1);
        DUE.due("FULL", SteadyMachine.FULL, -2);
        withoutImage("new", new SteadyMachine());
        DUE.due("new: end(1)", new SteadyMachine().end(1), -1);
        DUE.due("new: feed", new SteadyMachine().feed(0, 0, 0, 0, 0), 20);
        DUE.due("new: input", new SteadyMachine().input(0), 1);
    }

    private static void feeding() {
        SteadyMachine x = new SteadyMachine();
        for (int i = 1; i <= 400; i++) {
            DUE.due("feed " + i, x.feed(i, 0, 0, 0, 0), 20 * i);
        }
        DUE.due("feed on a full tape", x.feed(1, 1, 1, 1, 1), -2);
        DUE.due("end(8001)", x.end(8001), -1);
        DUE.due("feed behind end", x.feed(0, 0, 0, 0, 0), 20);

        // The highest byte is the first one: one class, without upper class, fields and slots.
        SteadyMachine y = new SteadyMachine();
        DUE.due("feed", y.feed(0x01FF0000, 0x00000000, 0x0001FF00, 0xFF000000, 0x01250000), 20);
        DUE.due("end(20)", y.end(20), 1);
    }

    private static void ending() {
        SteadyMachine x = loaded(plain(1, 1, new Code().number(1).op(Op.STORE, 0, Op.RETURN)));
        DUE.due("start", x.start(0, 0), true);
        DUE.due("run(1)", x.run(1), 1);
        x.feed(1, 2, 3, 4, 5);
        DUE.due("end(-1)", x.end(-1), -1);
        DUE.due("state() behind end(-1)", x.state(), 1);
        DUE.due("count(6) behind end(-1)", x.count(6), 1);
        DUE.due("tape behind end(-1)", x.feed(1, 2, 3, 4, 5), 20);
        DUE.due("end(21)", x.end(21), -1);
        DUE.due("state() behind end(21)", x.state(), 1);
        DUE.due("stands behind end(21)", x.stands(0, 5, 0, 0), 1);
        DUE.due("tape behind end(21)", x.feed(1, 2, 3, 4, 5), 20);
        DUE.due("end of what is no image", x.end(20), -3);
        withoutImage("behind a wrong image", x);

        SteadyMachine y = loaded(plain(0, 0, new Code().op(Op.RETURN)));
        y.start(0, 0);
        DUE.due("end of another image", plain(0, 0, new Code().op(Op.RETURN)).load(y), 1);
        withoutRun("behind another image", y);
        y.start(0, 0);
        DUE.due("end of a bad image", plain(0, 0, new Code().op(Op.POP)).load(y), -10003 - 17);
        withoutImage("behind a bad image", y);

        // Bytes of the tape behind the image are none of it.
        int[] image = plain(0, 0, new Code().op(Op.RETURN)).image();
        SteadyMachine z = new SteadyMachine();
        int[] five = Maker.numbers(image, 0);
        z.feed(five[0], five[1], five[2], five[3], five[4]);
        z.feed(-1, -1, -1, -1, -1);
        z.feed(-1, -1, -1, -1, -1);
        DUE.due("end with more on the tape", z.end(image.length), 1);
        DUE.due("tape behind it", z.feed(0, 0, 0, 0, 0), 20);
    }

    private static Code echo() {
        return new Code().mark("a").op(Op.IN, Op.OUT).jump(Op.GOTO, "a");
    }

    private static void inputsAndOutputs() {
        SteadyMachine x = loaded(plain(0, 1, echo()));
        for (int i = 0; i < 1000; i++) {
            DUE.due("input " + i, x.input(i - 500), i + 1);
        }
        DUE.due("input 1001", x.input(7), -2);
        x.start(0, 0);
        DUE.due("run", x.run(3 * 1003), 3 * 1003);
        DUE.due("inputs taken", x.count(1), 1000);
        DUE.due("outputs", x.count(2), 1003);
        for (int i = 0; i < 1000; i++) {
            DUE.due("out(" + i + ")", x.out(i), i - 500);
        }
        DUE.due("out(-1)", x.out(-1), 0);
        DUE.due("out(1000)", x.out(1000), 0);
        DUE.due("out of the least int", x.out(Integer.MIN_VALUE), 0);
        DUE.due("out of the greatest int", x.out(Integer.MAX_VALUE), 0);
        x.start(0, 0);
        DUE.due("outputs of a new run", x.count(2), 0);
        DUE.due("out(0) of a new run", x.out(0), 0);
        DUE.due("inputs taken in a new run", x.count(1), 0);
        x.run(2);
        DUE.due("out(0), taken from the first on", x.out(0), -500);
        DUE.due("out(1), not there yet", x.out(1), 0);
    }

    private static void clearedInputs() {
        SteadyMachine x = loaded(plain(0, 1, echo()));
        x.input(11);
        x.input(12);
        x.start(0, 0);
        x.run(6);
        x.clear();
        x.run(3);
        DUE.due("out(2) without inputs", x.out(2), 0);
        DUE.due("taken behind clear()", x.count(1), 2);
        DUE.due("input behind clear()", x.input(21), 1);
        x.input(22);
        x.run(3);
        DUE.due("out(3), input 2 is not there", x.out(3), 0);
        DUE.due("taken still", x.count(1), 2);
        x.input(23);
        x.run(3);
        DUE.due("out(4), input 2 is there", x.out(4), 23);
        DUE.due("taken then", x.count(1), 3);
    }

    private static void starting() {
        SteadyMachine x = loaded(plain(2, 0, new Code().op(Op.RETURN)));
        int[][] asked = {{Integer.MIN_VALUE, Integer.MIN_VALUE, 512}, {1023, 0, 512}, {1024, 1, 512}, {1025, 1, 512},
            {1026, 1, 513}, {3000, 2, 2000}, {60000, 64, 59076}, {60001, 65, 59076},
            {Integer.MAX_VALUE, Integer.MAX_VALUE, 59076}, {60000, 1, 30000}, {1024, 64, 1008}};
        for (int[] one : asked) {
            String call = "start(" + one[0] + ", " + one[1] + ")";
            DUE.due(call, x.start(one[0], one[1]), true);
            DUE.due(call + ": LIMIT", x.told(4), one[2]);
            DUE.due(call + ": state()", x.state(), 1);
            DUE.due(call + ": frames", x.count(3), 1);
            DUE.due(call + ": made", x.told(3), 16);
            DUE.due(call + ": cycles", x.told(0), 0);
            DUE.due(call + ": done", x.told(1), 1);
            DUE.due(call + ": R", x.told(2), 0);
            DUE.due(call + ": locals", x.frame(0, 3), 2);
            DUE.due(call + ": a local", x.value(0, 1, 0, 0), 0);
        }
    }

    private static void running() {
        SteadyMachine x = loaded(plain(0, 1, new Code().mark("a").op(Op.IN, Op.POP).jump(Op.GOTO, "a")));
        x.start(0, 0);
        DUE.due("run(-1)", x.run(-1), -1);
        DUE.due("run(20001)", x.run(20001), -1);
        DUE.due("steps of refused runs", x.count(0), 0);
        DUE.due("run(0)", x.run(0), 0);
        DUE.due("run(20000)", x.run(20000), 20000);
        DUE.due("steps", x.count(0), 20000);
        x.run(20000);
        DUE.due("steps of both", x.count(0), 40000);

        SteadyMachine y = loaded(plain(0, 1, new Code().op(Op.IN, Op.POP, Op.RETURN)));
        y.start(0, 0);
        DUE.due("run(2)", y.run(2), 2);
        DUE.due("state() before RETURN", y.state(), 1);
        DUE.due("run(2) up to RETURN", y.run(2), 1);
        DUE.due("state() RETURNED", y.state(), 2);
        DUE.due("run(0) behind the end", y.run(0), -1);
        DUE.due("frames", y.count(3), 0);
        DUE.due("frame(0, 0)", y.frame(0, 0), -1);
        DUE.due("steps", y.count(0), 3);
        DUE.due("value(-1, 0, 0, 0)", y.value(-1, 0, 0, 0), -1);
        DUE.due("start again", y.start(0, 0), true);
        DUE.due("state() again", y.state(), 1);
        DUE.due("steps again", y.count(0), 0);
    }

    private static void uncaught() {
        Code called = new Code().op(Op.NEW, 1, Op.DUP).number(77).op(Op.PUT, 1, 0, Op.THROW);
        SteadyMachine x = loaded(new Maker().kind(255, Maker.types()).kind(0, Maker.types(Op.INT))
            .method(0, 0, new Code().op(Op.CALL, 1, Op.RETURN)).method(0, 3, called));
        x.start(0, 0);
        DUE.due("run up to THROW", x.run(6), 6);
        DUE.due("flies", x.count(4), 1);
        DUE.due("frames", x.count(3), 2);
        DUE.due("place", x.frame(0, 1), 11);
        DUE.due("what is thrown stays on the stack", x.frame(0, 2), 1);
        DUE.due("run(1)", x.run(1), 1);
        DUE.due("one frame was left", x.count(3), 1);
        DUE.due("the caller's place", x.frame(0, 1), 0);
        DUE.due("state()", x.state(), 1);
        DUE.due("run(5)", x.run(5), 1);
        DUE.due("state() UNCAUGHT", x.state(), 3);
        DUE.due("frames", x.count(3), 0);
        DUE.due("was uncaught", x.count(4), 1);
        DUE.due("its class", x.value(-1, 0, 0, 1), 1);
        DUE.due("its field", x.value(-1, 0, 1, 1), 77);
        DUE.due("steps", x.count(0), 8);
        DUE.due("made", x.told(3), 34);
    }

    private static void counting() {
        SteadyMachine x = loaded(new Maker().kind(255, Maker.types()).kind(0, Maker.types()).kind(255, Maker.types())
            .method(0, 0, new Code().op(Op.CALL, 1, Op.RETURN)).method(0, 0, new Code().op(Op.CALL, 0, Op.RETURN)));
        DUE.due("classes", x.count(5), 3);
        DUE.due("methods", x.count(6), 2);
        DUE.due("frames without a run", x.count(3), 0);
        x.start(0, 0);
        x.run(9);
        DUE.due("frames", x.count(3), 10);
        for (int what : new int[] {-1, 7, Integer.MIN_VALUE, Integer.MAX_VALUE}) {
            DUE.due("count(" + what + ")", x.count(what), -1);
            DUE.due("told(" + what + ")", x.told(what), -1);
        }
        DUE.due("told(5)", x.told(5), -1);
    }

    /** Nothing of an earlier image, which had more of everything, is left in a later one. */
    private static void earlierImages() {
        Code end = new Code().op(Op.RETURN);
        Maker more = new Maker().kind(255, Maker.types(0, 1), 3, 2).kind(0, Maker.types(1)).thrown(1, 1, 1, 1, 1)
            .method(2, 2, new Code().op(Op.IN, Op.IN, Op.POP, Op.POP, Op.RETURN)).method(0, 0, end)
            .method(0, Maker.types(), 255, 1, 0, end);
        Maker less = new Maker().kind(255, Maker.types()).method(1, 1, new Code().op(Op.NULL, Op.POP, Op.RETURN));
        SteadyMachine x = new SteadyMachine();
        DUE.due("more", more.load(x), 7);
        DUE.due("less", less.load(x), 3);
        DUE.due("classes", x.count(5), 1);
        DUE.due("methods", x.count(6), 1);
        DUE.due("another method", x.stands(1, 0, 0, 0), -1);
        DUE.due("its instructions", x.stands(0, 3, 0, 0), -1);
        DUE.due("more", more.load(x), 7);
        DUE.due("a first method that is none", less.first(1).load(x), -3 - 21);
        more.load(x);
        int[] field = new Maker().kind(255, Maker.types()).method(0, 1, new Code().op(Op.NULL, Op.GET, 0, 0)).image();
        DUE.due("a field that is none", Maker.load(x, field), -3 - 20);
        more.load(x);
        int[] slot = new Maker().kind(255, Maker.types()).method(0, 1, new Code().op(Op.NULL, Op.SEND, 0, 3)).image();
        DUE.due("a slot that is none", Maker.load(x, slot), -3 - 20);
        more.load(x);
        int[] call = new Maker().kind(255, Maker.types()).method(0, 1, new Code().op(Op.CALL, 1, Op.RETURN)).image();
        DUE.due("a method that is none", Maker.load(x, call), -3 - 18);
    }
}
