import java.util.function.Consumer;

/**
 * Promises 1 to 15, call by call: the last argument on the one side of each bound and the first on the other, and that
 * a refused call leaves all as it was but for what the document names. Promise 16 is in VerifyBoundsTest.
 */
public final class CallBoundsTest {
    private static final Due DUE = new Due();
    private static final int MOST = Integer.MAX_VALUE;
    private static final int LEAST = Integer.MIN_VALUE;
    private static final String[] STATES = {"new", "with an image", "goes on", "flies", "RETURNED", "UNCAUGHT",
        "NO ROOM"};

    public static void main(String[] args) {
        newObject();
        feedUpToFull();
        feedRefused();
        feedBytes();
        endOfHowMany();
        endRefused();
        endOfAnImage();
        endOfWhatIsWrong();
        endOfWhatIsBad();
        endBehindOthers();
        inputUpToFull();
        inputAtAnyTime();
        clearAtAnyTime();
        startWithH();
        startWithK();
        startWithoutImage();
        startAgain();
        runHowMany();
        runRefused();
        runUpToItsEnd();
        states();
        counts();
        countsOfOutputs();
        outs();
        frames();
        valuesOfFrames();
        valuesOfWhatFlies();
        valuesByPath();
        valuesBySixParts();
        partsOfInts();
        sames();
        tolds();
        steadies();
        askingChangesNothing();
        DUE.finish();
    }

    private static Maker plain() {
        return new Maker().kind(255, Maker.types()).method(0, 0, new Code().op(Op.RETURN));
    }

    /** Puts out an input; by the next one it returns (0), throws (1), or makes a chain until there is no room (2). */
    private static Maker program() {
        Code code = new Code().op(Op.IN, Op.OUT, Op.NEW, 0, Op.STORE, 0, Op.NULL, Op.STORE, 1, Op.IN, Op.DUP)
            .jumpIf(Op.IF, Op.EQ, "return").number(1).jumpIf(Op.IFC, Op.EQ, "throw").mark("grow").op(Op.NEW, 0, Op.DUP)
            .op(Op.LOAD, 1, Op.PUT, 0, 0, Op.STORE, 1).jump(Op.GOTO, "grow").mark("return").op(Op.RETURN)
            .mark("throw").op(Op.LOAD, 0, Op.THROW);
        return new Maker().kind(255, Maker.types(1, Op.INT)).method(2, 3, code);
    }

    private static SteadyMachine loaded(Maker maker) {
        SteadyMachine x = new SteadyMachine();
        DUE.due("the image is taken", maker.load(x) > 0, true);
        return x;
    }

    private static SteadyMachine ran(int then, int steps) {
        SteadyMachine x = loaded(program());
        x.input(7);
        x.input(then);
        x.start(1024, 1);
        x.run(steps);
        return x;
    }

    /** An object in one of the states above. */
    private static SteadyMachine in(String state) {
        switch (state) {
            case "new":
                return new SteadyMachine();
            case "with an image":
                return loaded(program());
            case "goes on":
                return ran(2, 11);
            case "flies":
                return ran(1, 13);
            case "RETURNED":
                return ran(0, 100);
            case "UNCAUGHT":
                return ran(1, 100);
            default:
                return ran(2, 20000);
        }
    }

    /** Of two objects in the same state one is asked: then both are seen alike, and go on alike. */
    private static void leavesAll(String what, String state, Consumer<SteadyMachine> ask) {
        SteadyMachine x = in(state);
        SteadyMachine y = in(state);
        ask.accept(x);
        String when = what + ", " + state;
        DUE.due(when + ": seen", Seen.of(x, true).equals(Seen.of(y, true)), true);
        DUE.due(when + ": tape", x.feed(1, 2, 3, 4, 5), y.feed(1, 2, 3, 4, 5));
        DUE.due(when + ": inputs", x.input(5), y.input(5));
        DUE.due(when + ": run", x.run(4), y.run(4));
        DUE.due(when + ": start", x.start(2000, 3), y.start(2000, 3));
        DUE.due(when + ": run again", x.run(14), y.run(14));
        DUE.due(when + ": seen again", Seen.of(x, true).equals(Seen.of(y, true)), true);
    }

    /** Promise 1: no image, no inputs, no run; the tape is empty. */
    private static void newObject() {
        withoutImage("new", new SteadyMachine());
        DUE.due("no byte on the tape", new SteadyMachine().end(1), -1);
        DUE.due("none at all", new SteadyMachine().end(0), -3);
        DUE.due("the first bytes", new SteadyMachine().feed(1, 2, 3, 4, 5), 20);
        DUE.due("the first input", new SteadyMachine().input(9), 1);
        SteadyMachine x = new SteadyMachine();
        x.clear();
        DUE.due("the first input behind clear()", x.input(9), 1);
        SteadyMachine y = loaded(program());
        y.start(0, 0);
        y.run(2);
        DUE.due("no input is there", y.out(0), 0);
        DUE.due("none was taken", y.count(1), 0);
    }

    private static void withoutRun(String when, SteadyMachine x) {
        DUE.due(when + ": state()", x.state(), 0);
        for (int what = 0; what < 5; what++) {
            DUE.due(when + ": count(" + what + ")", x.count(what), 0);
            DUE.due(when + ": told(" + what + ")", x.told(what), -1);
        }
        for (int n : new int[] {0, 1, 20000}) {
            DUE.due(when + ": run(" + n + ")", x.run(n), -1);
        }
        DUE.due(when + ": out(0)", x.out(0), 0);
        for (int what = 0; what < 4; what++) {
            DUE.due(when + ": frame(0, " + what + ")", x.frame(0, what), -1);
        }
        for (int what = 0; what < 3; what++) {
            DUE.due(when + ": value(0, 0, 0, " + what + ")", x.value(0, 0, 0, what), -1);
            DUE.due(when + ": value(-1, 0, 0, " + what + ")", x.value(-1, 0, 0, what), -1);
        }
        DUE.due(when + ": same(0, 0)", x.same(0, 0), false);
        DUE.due(when + ": steady()", x.steady(), true);
    }

    private static void withoutImage(String when, SteadyMachine x) {
        withoutRun(when, x);
        DUE.due(when + ": count(5)", x.count(5), 0);
        DUE.due(when + ": count(6)", x.count(6), 0);
        DUE.due(when + ": stands(0, 0, 0, 0)", x.stands(0, 0, 0, 0), -1);
        DUE.due(when + ": start(2000, 2)", x.start(2000, 2), false);
        DUE.due(when + ": still no run", x.state(), 0);
    }

    /** An image of as many bytes as the tape has, 8,000: its last one is the first method, 8. */
    private static int[] wholeTape() {
        Maker maker = new Maker().kind(255, Maker.types());
        int left = 8000 - 11;
        for (int m = 0; m < 9; m++) {
            int length = Math.min(1000, left - 8 - (8 - m) * 9);
            Code code = new Code();
            for (int i = 0; i < length; i++) {
                code.op(Op.RETURN);
            }
            maker.method(0, 0, code);
            left -= 8 + length;
        }
        return maker.first(8).image();
    }

    private static SteadyMachine fullTape() {
        SteadyMachine x = new SteadyMachine();
        int[] image = wholeTape();
        for (int i = 0; i < 400; i++) {
            int[] five = Maker.numbers(image, 20 * i);
            DUE.due("feed " + i, x.feed(five[0], five[1], five[2], five[3], five[4]), 20 * (i + 1));
        }
        return x;
    }

    /** Promise 2: FULL when there would be more than 8,000: at 7,980 there is room, at 8,000 there is not. */
    private static void feedUpToFull() {
        SteadyMachine x = fullTape();
        DUE.due("feed on a full tape", x.feed(0, 0, 0, 0, 0), -2);
        DUE.due("feed once more", x.feed(0, 0, 0, 0, 0), -2);
        DUE.due("more than there are", x.end(8001), -1);
        DUE.due("feed on an empty tape", x.feed(0, 0, 0, 0, 0), 20);
    }

    /** A refused feed changes nothing: the tape has the bytes that it had. */
    private static void feedRefused() {
        SteadyMachine x = fullTape();
        DUE.due("feed on a full tape", x.feed(-1, -1, -1, -1, -1), -2);
        DUE.due("all 8,000 are the image", x.end(8000), 8000 - 11 - 9 * 8);
        DUE.due("methods", x.count(6), 9);
        x.start(0, 0);
        DUE.due("its first method", x.frame(0, 0), 8);
    }

    /** The highest byte of each first: five numbers are 20 bytes. */
    private static void feedBytes() {
        int[] image = plain().image();
        for (int i = 0; i < 5; i++) {
            for (int shift = 0; shift < 32; shift += 8) {
                int place = 4 * i + 3 - shift / 8;
                int[] five = Maker.numbers(image, 0);
                five[i] = five[i] & ~(255 << shift) | 254 << shift;
                SteadyMachine x = new SteadyMachine();
                x.feed(five[0], five[1], five[2], five[3], five[4]);
                int answer = x.end(20);
                // 254 cannot stand anywhere in this image but as the length of code, which then has no end.
                DUE.due("byte " + place, answer, -3 - (place == 16 ? 20 : place));
            }
        }
        SteadyMachine x = new SteadyMachine();
        x.feed(LEAST, MOST, 0, -1, 1);
        DUE.due("the first byte is 128", x.end(20), -3);
    }

    /** Promise 3: the tape's first n bytes; NONE when n is below 0 or there are not so many. */
    private static void endOfHowMany() {
        int[] image = plain().image();
        int[] five = Maker.numbers(image, 0);
        DUE.due("the image has all bytes of a feed", image.length, 20);
        int[][] asked = {{LEAST, -1}, {-1, -1}, {0, -3}, {1, -4}, {19, -22}, {20, 1}, {21, -1}, {40, -1}, {8000, -1},
            {MOST, -1}};
        for (int[] one : asked) {
            SteadyMachine x = new SteadyMachine();
            x.feed(five[0], five[1], five[2], five[3], five[4]);
            DUE.due("end(" + one[0] + ") of 20 bytes", x.end(one[0]), one[1]);
            DUE.due("the tape is empty", x.end(1), -1);
            DUE.due("the tape is empty still", x.feed(0, 0, 0, 0, 0), 20);
        }
        for (int n : new int[] {20, 21, 39, 40, 41}) {
            SteadyMachine x = new SteadyMachine();
            x.feed(five[0], five[1], five[2], five[3], five[4]);
            x.feed(0, 0, 0, 0, 0);
            DUE.due("end(" + n + ") of 40 bytes", x.end(n), n == 20 ? 1 : n <= 40 ? -23 : -1);
        }
    }

    /** NONE, and only the tape is empty: image, run and inputs are as before. */
    private static void endRefused() {
        for (String state : STATES) {
            for (int n : new int[] {LEAST, -1, 41, MOST}) {
                leavesAll("end(" + n + ")", state, x -> {
                    x.feed(-1, -1, -1, -1, -1);
                    x.feed(-1, -1, -1, -1, -1);
                    DUE.due("end(" + n + ")", x.end(n), -1);
                });
            }
        }
    }

    /** The tape is empty, and no run is there any more, whatever it was; inputs stay. */
    private static void endOfAnImage() {
        for (String state : STATES) {
            SteadyMachine x = in(state);
            int inputs = x.input(3);
            DUE.due("end, " + state, plain().load(x), 1);
            withoutRun("behind end, " + state, x);
            DUE.due("classes", x.count(5), 1);
            DUE.due("methods", x.count(6), 1);
            DUE.due("the tape is empty", x.feed(0, 0, 0, 0, 0), 20);
            DUE.due("inputs stay", x.input(4), inputs + 1);
            DUE.due("a run begins", x.start(0, 0), true);
            DUE.due("run", x.run(5), 1);
        }
    }

    /** Then there is no image, and no run; the tape is empty, inputs stay. */
    private static void endOfWhatIsWrong() {
        int[] wrong = plain().image();
        wrong[19] = 1;
        refusedImage("wrong", wrong, -3 - 19);
        refusedImage("no bytes", new int[0], -3);
    }

    private static void endOfWhatIsBad() {
        int[] bad = plain().image();
        bad[17] = Op.POP;
        refusedImage("bad", bad, -10003 - 17);
    }

    private static void refusedImage(String what, int[] image, int due) {
        for (String state : STATES) {
            SteadyMachine x = in(state);
            int inputs = x.input(3);
            DUE.due(what + ", " + state, Maker.load(x, image), due);
            withoutImage(what + ", " + state, x);
            DUE.due("the tape is empty", x.feed(0, 0, 0, 0, 0), 20);
            DUE.due("the tape is empty again", x.end(21), -1);
            DUE.due("inputs stay", x.input(4), inputs + 1);
            DUE.due("another image", program().load(x) > 0, true);
            x.start(0, 0);
            x.run(2);
            DUE.due("the first input", x.out(0), inputs == 1 ? 3 : 7);
        }
    }

    /** Of an image before, be it taken, wrong or bad, nothing is left in what the next one answers. */
    private static void endBehindOthers() {
        Code jumps = new Code().op(Op.IN).jumpIf(Op.IF, Op.EQ, "far").op(Op.POP).mark("far").op(Op.IN, Op.POP)
            .op(Op.RETURN);
        // What is still marked there, at 6, as POP is bad, is never come to here, where it would be bad.
        Code dead = new Code().number(1).op(Op.RETURN, Op.POP, Op.ADD, Op.ADD, Op.ADD);
        Code operand = new Code().op(Op.IN).jumpIf(Op.IF, Op.EQ, "in").op(Op.CONST, 0, 0).mark("in")
            .op(0, 0, Op.POP, Op.RETURN);
        Maker[] all = {plain(), program(), new Maker().kind(255, Maker.types()).method(0, 1, jumps),
            new Maker().kind(255, Maker.types()).method(0, 1, dead),
            new Maker().kind(255, Maker.types()).method(0, 1, operand),
            new Maker().kind(255, Maker.types()).method(0, 1, new Code().op(Op.IN, Op.POP, Op.NULL, Op.POP, Op.NULL,
                Op.POP, Op.NULL, Op.POP, Op.RETURN))};
        for (Maker one : all) {
            SteadyMachine fresh = new SteadyMachine();
            int due = one.load(fresh);
            String seen = Seen.of(fresh, true);
            for (Maker first : all) {
                for (Maker second : all) {
                    SteadyMachine x = new SteadyMachine();
                    first.load(x);
                    second.load(x);
                    DUE.due("an image behind two others", one.load(x), due);
                    DUE.due("it is seen as on a new object", Seen.of(x, true).equals(seen), true);
                }
            }
        }
    }

    /** Promise 4: FULL when there are 1,000. More calls than are promised, but no fewer have so many inputs. */
    private static void inputUpToFull() {
        SteadyMachine x = loaded(new Maker().kind(255, Maker.types())
            .method(0, 1, new Code().mark("a").op(Op.IN, Op.OUT).jump(Op.GOTO, "a")));
        for (int i = 1; i <= 1000; i++) {
            DUE.due("input " + i, x.input(-i), i);
        }
        DUE.due("input 1,001", x.input(77), -2);
        DUE.due("input 1,001 again", x.input(78), -2);
        x.start(0, 0);
        DUE.due("run", x.run(3 * 1001), 3003);
        DUE.due("taken", x.count(1), 1000);
        DUE.due("the first one", x.out(0), -1);
        DUE.due("the last one", x.out(999), -1000);
        DUE.due("all are taken, and it is FULL", x.input(79), -2);
        x.clear();
        DUE.due("input behind clear()", x.input(80), 1);
    }

    /** An input behind those that there are, with and without an image or a run, which it does not change. */
    private static void inputAtAnyTime() {
        for (String state : STATES) {
            int had = state.equals("new") || state.equals("with an image") ? 0 : 2;
            for (int v : new int[] {LEAST, 0, MOST}) {
                SteadyMachine x = in(state);
                String before = Seen.of(x, true);
                DUE.due("input, " + state, x.input(v), had + 1);
                DUE.due("input again, " + state, x.input(v), had + 2);
                DUE.due("seen, " + state, Seen.of(x, true).equals(before), true);
            }
        }
    }

    /** Promise 5: no inputs; it does not change how many were taken, or anything else. */
    private static void clearAtAnyTime() {
        for (String state : STATES) {
            SteadyMachine x = in(state);
            String before = Seen.of(x, true);
            x.clear();
            DUE.due("seen, " + state, Seen.of(x, true).equals(before), true);
            DUE.due("input behind clear(), " + state, x.input(1), 1);
            x.clear();
            x.clear();
            DUE.due("input behind both, " + state, x.input(1), 1);
        }
        // Two were taken: of those that come behind clear() the third is next.
        SteadyMachine x = loaded(new Maker().kind(255, Maker.types())
            .method(0, 1, new Code().mark("a").op(Op.IN, Op.OUT).jump(Op.GOTO, "a")));
        x.input(1);
        x.input(2);
        x.start(0, 0);
        x.run(6);
        x.clear();
        for (int i = 0; i < 3; i++) {
            x.run(3);
            DUE.due("output without input 2", x.out(2 + i), 0);
            DUE.due("taken", x.count(1), 2);
            x.input(10 + i);
        }
        x.run(3);
        DUE.due("output of input 2", x.out(5), 12);
        DUE.due("taken then", x.count(1), 3);
        x.clear();
        x.input(20);
        x.start(0, 0);
        x.run(3);
        DUE.due("a new run takes the first one", x.out(0), 20);
    }

    /** Promise 6: H, but at least 1,024 and at most 60,000. With k = 64 LIMIT tells one H from the next. */
    private static void startWithH() {
        int[][] asked = {{LEAST, 1024}, {-1, 1024}, {0, 1024}, {1023, 1024}, {1024, 1024}, {1025, 1025},
            {1026, 1026}, {59999, 59999}, {60000, 60000}, {60001, 60000}, {MOST, 60000}};
        SteadyMachine x = loaded(plain());
        for (int[] one : asked) {
            DUE.due("start(" + one[0] + ", 64)", x.start(one[0], 64), true);
            DUE.due("LIMIT of " + one[0], x.told(4), one[1] * 64 / 65);
        }
        DUE.due("one H from the next", 1024 * 64 / 65 < 1025 * 64 / 65 && 59999 * 64 / 65 < 60000 * 64 / 65, true);
        DUE.due("one H from the next beyond", 60000 * 64 / 65 < 60001 * 64 / 65, true);
    }

    /** And k, but at least 1 and at most 64. */
    private static void startWithK() {
        int[][] asked = {{LEAST, 1}, {-1, 1}, {0, 1}, {1, 1}, {2, 2}, {3, 3}, {63, 63}, {64, 64}, {65, 64}, {MOST, 64}};
        SteadyMachine x = loaded(plain());
        for (int[] one : asked) {
            DUE.due("start(60000, " + one[0] + ")", x.start(60000, one[0]), true);
            DUE.due("LIMIT of k = " + one[0], x.told(4), 60000 * one[1] / (one[1] + 1));
        }
        DUE.due("one k from the next", 60000 * 64 / 65 < 60000 * 65 / 66, true);
    }

    /** False without an image: the tape and the inputs are as before, and there is no run. */
    private static void startWithoutImage() {
        SteadyMachine x = new SteadyMachine();
        x.input(5);
        int[] five = Maker.numbers(plain().image(), 0);
        x.feed(five[0], five[1], five[2], five[3], five[4]);
        DUE.due("start", x.start(2000, 2), false);
        withoutImage("a refused start", x);
        DUE.due("the tape stays", x.end(20), 1);
        DUE.due("inputs stay", x.input(6), 2);
        DUE.due("with an image", x.start(2000, 2), true);
    }

    /** A run begins: of one before, whatever became of it, nothing is left. */
    private static void startAgain() {
        String fresh = null;
        for (String state : STATES) {
            if (!state.equals("new")) {
                SteadyMachine x = in(state);
                x.clear();
                x.input(7);
                DUE.due("start, " + state, x.start(1024, 1), true);
                DUE.due("state()", x.state(), 1);
                DUE.due("frames", x.count(3), 1);
                DUE.due("made", x.told(3), 16);
                String seen = Seen.of(x, true);
                fresh = fresh == null ? seen : fresh;
                DUE.due("as a first run, " + state, seen.equals(fresh), true);
                x.run(2);
                DUE.due("inputs are taken from the first on", x.out(0), 7);
            }
        }
    }

    private static SteadyMachine around() {
        SteadyMachine x = loaded(new Maker().kind(255, Maker.types())
            .method(0, 1, new Code().mark("a").op(Op.IN, Op.OUT).jump(Op.GOTO, "a")));
        x.start(0, 0);
        return x;
    }

    /** Promise 7: up to n steps: how many were done; NONE when n is not 0 .. 20,000. */
    private static void runHowMany() {
        SteadyMachine x = around();
        int[][] asked = {{LEAST, -1}, {-1, -1}, {0, 0}, {1, 1}, {2, 2}, {19999, 19999}, {20000, 20000}, {20001, -1},
            {65536, -1}, {MOST, -1}};
        long steps = 0;
        for (int[] one : asked) {
            DUE.due("run(" + one[0] + ")", x.run(one[0]), one[1]);
            steps += Math.max(0, one[1]);
            DUE.due("steps behind run(" + one[0] + ")", x.count(0), steps);
        }
    }

    /** NONE, refused: nothing changes. */
    private static void runRefused() {
        for (String state : STATES) {
            boolean goesOn = state.equals("goes on") || state.equals("flies");
            for (int n : new int[] {LEAST, -1, 20001, MOST}) {
                leavesAll("run(" + n + ")", state, x -> DUE.due("run(" + n + ")", x.run(n), -1));
            }
            if (!goesOn) {
                for (int n : new int[] {0, 1, 20000}) {
                    leavesAll("run(" + n + ")", state, x -> DUE.due("run(" + n + ")", x.run(n), -1));
                }
            } else {
                leavesAll("run(0)", state, x -> DUE.due("run(0)", x.run(0), 0));
            }
        }
    }

    /** The last step of a run may be the last of those asked for, or one before. */
    private static void runUpToItsEnd() {
        int[] last = {0, 1};
        int[] all = {10, 14};
        for (int i = 0; i < 2; i++) {
            for (int n = all[i] - 1; n <= all[i] + 1; n++) {
                SteadyMachine x = ran(last[i], 0);
                DUE.due("run(" + n + ") of " + all[i], x.run(n), Math.min(n, all[i]));
                DUE.due("state() behind run(" + n + ")", x.state(), n < all[i] ? 1 : 2 + i);
                DUE.due("run(1) behind it", x.run(1), n < all[i] ? 1 : -1);
                DUE.due("steps", x.count(0), all[i]);
            }
        }
        // Without room the step that is not done does not count, and what was done before it does.
        SteadyMachine x = ran(2, 0);
        int done = x.run(20000);
        DUE.due("without room: state()", x.state(), 4);
        DUE.due("without room: steps", x.count(0), done);
        SteadyMachine y = ran(2, 0);
        DUE.due("just so many", y.run(done), done);
        DUE.due("it goes on", y.state(), 1);
        DUE.due("run(0) still", y.run(0), 0);
        DUE.due("it goes on still", y.state(), 1);
        DUE.due("one more is not done", y.run(1), 0);
        DUE.due("and there is no room", y.state(), 4);
    }

    /** Promise 8: 0 there is no run, 1 it goes on, 2 RETURNED, 3 UNCAUGHT, 4 NO ROOM. */
    private static void states() {
        int[] due = {0, 0, 1, 1, 2, 3, 4};
        for (int i = 0; i < STATES.length; i++) {
            DUE.due("state(), " + STATES[i], in(STATES[i]).state(), due[i]);
        }
    }

    /** Promise 9: NONE for another what; 0 of the first five without a run, of the others without an image. */
    private static void counts() {
        long[][] due = {{0, 0, 0, 0, 0, 0, 0}, {0, 0, 0, 0, 0, 1, 1}, {11, 2, 1, 1, 0, 1, 1}, {13, 2, 1, 1, 1, 1, 1},
            {10, 2, 1, 0, 0, 1, 1}, {14, 2, 1, 0, 1, 1, 1}};
        for (int i = 0; i < due.length; i++) {
            SteadyMachine x = in(STATES[i]);
            for (int what = 0; what <= 6; what++) {
                DUE.due("count(" + what + "), " + STATES[i], x.count(what), due[i][what]);
            }
            for (int what : new int[] {LEAST, -2, -1, 7, 8, MOST}) {
                DUE.due("count(" + what + "), " + STATES[i], x.count(what), -1);
            }
        }
        SteadyMachine x = in("NO ROOM");
        DUE.due("frames without room", x.count(3), 1);
        DUE.due("nothing flies without room", x.count(4), 0);
    }

    /** Outputs (2; all): those behind the first 1,000, too. */
    private static void countsOfOutputs() {
        SteadyMachine x = around();
        int[][] runs = {{3 * 998 + 2, 999}, {3, 1000}, {3, 1001}, {3, 1002}, {20000, 7668}};
        for (int[] one : runs) {
            x.run(one[0]);
            DUE.due("outputs", x.count(2), one[1]);
        }
    }

    /** Promise 10: output i of the first 1,000; 0 when there is none. */
    private static void outs() {
        Code code = new Code().number(1).op(Op.STORE, 0).mark("a").op(Op.LOAD, 0, Op.OUT, Op.LOAD, 0).number(1)
            .op(Op.ADD, Op.STORE, 0).jump(Op.GOTO, "a");
        SteadyMachine x = loaded(new Maker().kind(255, Maker.types()).method(1, 2, code));
        x.start(0, 0);
        int done = 0;
        for (int many : new int[] {0, 1, 2, 999, 1000, 1001, 1500}) {
            x.run((many == 0 ? 3 : 4 + 7 * (many - 1)) - done);
            done = (int) x.count(0);
            DUE.due("outputs", x.count(2), many);
            for (int i : new int[] {LEAST, -1, 0, 1, many - 1, many, 998, 999, 1000, 1001, 1499, 1500, MOST}) {
                DUE.due("out(" + i + ") of " + many, x.out(i), i >= 0 && i < many && i < 1000 ? i + 1 : 0);
            }
        }
        for (String state : new String[] {"RETURNED", "UNCAUGHT", "NO ROOM"}) {
            DUE.due("out(0), " + state, in(state).out(0), 7);
            DUE.due("out(1), " + state, in(state).out(1), 0);
        }
    }

    /** Three frames of methods 0 to 2, of 2, 0 and 12 locals, and a stack of 1, 2 and 0. */
    private static SteadyMachine threeFrames() {
        Code first = new Code().op(Op.IN, Op.CALL, 1, Op.RETURN);
        Code second = new Code().op(Op.NULL, Op.NEW, 0, Op.CALL, 2, Op.RETURN);
        Code third = new Code().op(Op.RETURN);
        SteadyMachine x = loaded(new Maker().kind(255, Maker.types()).method(2, 1, first).method(0, 2, second)
            .method(12, 0, third));
        x.start(0, 0);
        DUE.due("run", x.run(5), 5);
        return x;
    }

    /** Promise 11: of frame f, from 0, the top one first; NONE for one that is none, and for another what. */
    private static void frames() {
        SteadyMachine x = threeFrames();
        int[][] due = {{2, 0, 0, 12}, {1, 3, 2, 0}, {0, 1, 1, 2}};
        for (int f = 0; f < 3; f++) {
            for (int what = 0; what < 4; what++) {
                DUE.due("frame(" + f + ", " + what + ")", x.frame(f, what), due[f][what]);
            }
            for (int what : new int[] {LEAST, -1, 4, 5, MOST}) {
                DUE.due("frame(" + f + ", " + what + ")", x.frame(f, what), -1);
            }
        }
        for (int f : new int[] {LEAST, -2, -1, 3, 4, MOST}) {
            for (int what = 0; what < 4; what++) {
                DUE.due("frame(" + f + ", " + what + ")", x.frame(f, what), -1);
            }
        }
        x.run(1);
        DUE.due("one was left: the last one", x.frame(1, 0), 0);
        DUE.due("one was left: none", x.frame(2, 0), -1);
        x.run(2);
        DUE.due("all were left", x.frame(0, 0), -1);
        for (String state : new String[] {"RETURNED", "UNCAUGHT"}) {
            DUE.due("frame(0, 0), " + state, in(state).frame(0, 0), -1);
        }
        SteadyMachine y = in("NO ROOM");
        DUE.due("frame(0, 0), NO ROOM", y.frame(0, 0), 0);
        DUE.due("frame(0, 3), NO ROOM", y.frame(0, 3), 2);
        DUE.due("frame(1, 0), NO ROOM", y.frame(1, 0), -1);
    }

    /** Promise 12: of value k of a frame (locals, then the stack). */
    private static void valuesOfFrames() {
        SteadyMachine x = threeFrames();
        int[] many = {12, 2, 3};
        int[][] kinds = {{0, 0}, {1, 2}, {0, 0}};
        for (int f = 0; f < 3; f++) {
            DUE.due("the first value of " + f, x.value(f, 0, 0, 0), kinds[f][0]);
            DUE.due("the last value of " + f, x.value(f, many[f] - 1, 0, 0), kinds[f][1]);
            for (int k : new int[] {LEAST, -1, many[f], 12, 13, MOST}) {
                for (int what = 0; what < 3; what++) {
                    DUE.due("value(" + f + ", " + k + ", 0, " + what + ")", x.value(f, k, 0, what), -1);
                }
            }
            for (int what : new int[] {LEAST, -1, 3, 4, MOST}) {
                DUE.due("value(" + f + ", 0, 0, " + what + ")", x.value(f, 0, 0, what), -1);
            }
        }
        for (int f : new int[] {LEAST, -2, -1, 3, 4, MOST}) {
            for (int what = 0; what < 3; what++) {
                DUE.due("value(" + f + ", 0, 0, " + what + ")", x.value(f, 0, 0, what), -1);
            }
        }
    }

    /** What flies or was uncaught (f = NONE, k = 0). */
    private static void valuesOfWhatFlies() {
        for (String state : STATES) {
            SteadyMachine x = in(state);
            boolean flies = state.equals("flies") || state.equals("UNCAUGHT");
            DUE.due("what flies, " + state, x.value(-1, 0, 0, 0), flies ? 2 : -1);
            DUE.due("its class, " + state, x.value(-1, 0, 0, 1), flies ? 0 : -1);
            DUE.due("its fields, " + state, x.value(-1, 0, 0, 2), flies ? 2 : -1);
            DUE.due("its first field, " + state, x.value(-1, 0, 1, 0), flies ? 1 : -1);
            DUE.due("its last field, " + state, x.value(-1, 0, 2, 0), flies ? 0 : -1);
            DUE.due("no field, " + state, x.value(-1, 0, 3, 0), -1);
            for (int k : new int[] {LEAST, -1, 1, 2, MOST}) {
                DUE.due("value(-1, " + k + ", 0, 0), " + state, x.value(-1, k, 0, 0), -1);
            }
            for (int what : new int[] {LEAST, -1, 3, MOST}) {
                DUE.due("value(-1, 0, 0, " + what + "), " + state, x.value(-1, 0, 0, what), -1);
            }
        }
    }

    private static void asked(String what, SteadyMachine x, int k, long path, int... due) {
        for (int i = 0; i < 3; i++) {
            DUE.due(what + ": " + i, x.value(0, k, path, i), due[i]);
        }
    }

    /** Parts, a field or item and 1 more each; NONE when there is none; 0 for 1 of nothing, 2 of all but objects. */
    private static void valuesByPath() {
        int[] fields = new int[15];
        fields[14] = 1;
        Code code = new Code().op(Op.NEW, 0, Op.STORE, 0).number(0).op(Op.ROW, 0, Op.STORE, 1).number(3375)
            .op(Op.ROW, 1, Op.STORE, 2).number(-1).op(Op.STORE, 3).op(Op.NULL, Op.STORE, 4, Op.NEW, 1, Op.STORE, 5)
            .number(225).op(Op.ROW, 0, Op.STORE, 6, Op.RETURN);
        SteadyMachine x = loaded(new Maker().kind(255, fields).kind(255, Maker.types()).method(7, 1, code));
        x.start(0, 0);
        x.run(17);
        asked("an object", x, 0, 0, 2, 0, 15);
        asked("its first field", x, 0, 1, 0, 0, 0);
        asked("its last field", x, 0, 15, 1, 0, 0);
        asked("no field", x, 0, 16, -1, -1, -1);
        asked("no field far off", x, 0, 4095, -1, -1, -1);
        asked("an empty row", x, 1, 0, 3, 0, 0);
        asked("its first item", x, 1, 1, -1, -1, -1);
        asked("the longest row", x, 2, 0, 4, 3375, 0);
        asked("its first item", x, 2, 1, 1, 0, 0);
        asked("its last item", x, 2, 3375, 1, 0, 0);
        asked("no item", x, 2, 3376, -1, -1, -1);
        asked("no item far off", x, 2, 4095, -1, -1, -1);
        asked("the int -1", x, 3, 0, 0, -1, 0);
        asked("part of an int", x, 3, 1, -1, -1, -1);
        asked("nothing", x, 4, 0, 1, 0, 0);
        asked("part of nothing", x, 4, 1, -1, -1, -1);
        asked("an object without fields", x, 5, 0, 2, 1, 0);
        asked("its first field", x, 5, 1, -1, -1, -1);
        asked("a row of ints", x, 6, 225, 0, 0, 0);
        asked("beyond a row of ints", x, 6, 226, -1, -1, -1);
        // Twelve bits are a part: bit 12 is the next one's.
        asked("a part of a field that is an int", x, 0, 1 | 1 << 12, -1, -1, -1);
        asked("up to the first that are 0", x, 0, 1L << 12, 2, 0, 15);
        asked("up to the first that are 0, upward", x, 0, 1 | 1L << 24, 0, 0, 0);
        asked("all bits but the lowest twelve", x, 0, -4096L, 2, 0, 15);
        asked("all bits", x, 0, -1L, -1, -1, -1);
        asked("all bits of an int", x, 3, -1L, -1, -1, -1);
    }

    /** And so on upward (the highest four as a sixth part): five parts of twelve bits, one of four, up to 15. */
    private static void valuesBySixParts() {
        int[] fields = new int[15];
        fields[0] = 1;
        fields[14] = 2;
        Code code = new Code().op(Op.NEW, 0, Op.STORE, 0, Op.LOAD, 0, Op.LOAD, 0, Op.PUT, 0, 0, Op.LOAD, 0, Op.NEW, 1,
            Op.PUT, 0, 14, Op.LOAD, 0).number(77).op(Op.PUT, 0, 7, Op.RETURN);
        SteadyMachine x = loaded(new Maker().kind(255, fields).kind(255, Maker.types(Op.INT, Op.INT))
            .method(1, 2, code));
        x.start(0, 0);
        x.run(11);
        long path = 0;
        for (int parts = 0; parts <= 5; parts++) {
            int shift = 12 * parts;
            asked(parts + " parts", x, 0, path, 2, 0, 15);
            asked(parts + " parts and the int", x, 0, path | 8L << shift, 0, 77, 0);
            asked(parts + " parts and the last one", x, 0, path | 15L << shift, 2, 1, 2);
            if (parts < 5) {
                asked(parts + " parts and none", x, 0, path | 16L << shift, -1, -1, -1);
                asked(parts + " parts, one left out", x, 0, path | 8L << shift + 12, 2, 0, 15);
            }
            path |= 1L << shift;
        }
        asked("six parts", x, 0, path, 2, 0, 15);
    }

    /** NONE when there is none: no int has parts, whatever it is. */
    private static void partsOfInts() {
        Code code = new Code().op(Op.NEW, 0, Op.STORE, 1, Op.IN, Op.STORE, 0).mark("a").op(Op.LOAD, 0).number(1)
            .op(Op.ADD, Op.STORE, 0).jump(Op.GOTO, "a");
        Maker maker = new Maker().kind(255, Maker.types(0, 0, 0)).method(2, 2, code);
        for (int from = -100; from < 4400; from += 200) {
            SteadyMachine x = loaded(maker);
            x.input(from);
            x.start(1024, 1);
            x.run(4);
            for (int v = from; v < from + 200; v++) {
                DUE.due("a part of " + v, x.value(0, 0, 1, 1), -1);
                x.run(5);
            }
            DUE.due("the int", x.value(0, 0, 0, 1), from + 200);
        }
    }

    /** Promise 13: false when one is none, or an int; both nothing are the same. */
    private static void sames() {
        Code code = new Code().op(Op.NEW, 0, Op.STORE, 0, Op.NULL, Op.STORE, 1).op(Op.IN, Op.STORE, 2).op(Op.LOAD, 0,
            Op.NULL, Op.NEW, 0, Op.RETURN);
        SteadyMachine x = loaded(new Maker().kind(255, Maker.types()).method(3, 3, code));
        x.start(0, 0);
        x.run(9);
        int[] like = {0, 1, -1, 0, 1, 5};
        for (int k : new int[] {LEAST, -1, 0, 1, 2, 3, 4, 5, 6, 12, MOST}) {
            for (int other : new int[] {LEAST, -1, 0, 1, 2, 3, 4, 5, 6, 12, MOST}) {
                boolean both = k >= 0 && k < 6 && other >= 0 && other < 6;
                boolean due = both && like[k] >= 0 && like[k] == like[other];
                DUE.due("same(" + k + ", " + other + ")", x.same(k, other), due);
            }
        }
        x.run(1);
        DUE.due("without frames", x.same(0, 0), false);
        DUE.due("without room", in("NO ROOM").same(0, 0), true);
        // Only the top frame's values count.
        SteadyMachine y = threeFrames();
        DUE.due("ints of the top frame", y.same(0, 0), false);
        y.run(1);
        DUE.due("the frame that called", y.same(1, 1), true);
    }

    /** Promise 14: NONE without a run, or for another what. */
    private static void tolds() {
        for (String state : STATES) {
            SteadyMachine x = in(state);
            boolean there = x.state() != 0;
            for (int what : new int[] {LEAST, -1, 5, 6, MOST}) {
                DUE.due("told(" + what + "), " + state, x.told(what), -1);
            }
            DUE.due("LIMIT, " + state, x.told(4), there ? 512 : -1);
            DUE.due("made is told, " + state, x.told(3) >= 0, there);
            DUE.due("cycles are told, " + state, x.told(0) >= 0, there);
        }
    }

    /** Promise 15: true without a run; and of each run that is here. */
    private static void steadies() {
        for (String state : STATES) {
            DUE.due("steady(), " + state, in(state).steady(), true);
        }
    }

    /** Calls that ask change nothing, whatever they are asked. */
    private static void askingChangesNothing() {
        for (String state : STATES) {
            leavesAll("asking", state, x -> {
                for (int v : new int[] {LEAST, -2, -1, 0, 1, 5, 20, 1000, MOST}) {
                    x.count(v);
                    x.out(v);
                    x.frame(v, 0);
                    x.frame(0, v);
                    x.value(v, 0, v, 0);
                    x.value(0, v, 1L << 60, 1);
                    x.value(-1, 0, Long.MIN_VALUE, v);
                    x.same(v, 0);
                    x.same(0, v);
                    x.told(v);
                    x.stands(v, 0, 0, 0);
                    x.stands(0, v, v, v);
                }
                x.state();
                x.steady();
            });
        }
    }
}
