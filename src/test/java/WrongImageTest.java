import java.util.Arrays;

/** Promise 3: which byte of an image is wrong. */
public final class WrongImageTest {
    private static final Due DUE = new Due();
    private final Parts parts = new Parts();

    public static void main(String[] args) {
        WrongImageTest whole = new WrongImageTest();
        whole.make();
        DUE.due("the image itself", whole.parts.answer(), 14);
        whole.ranges();
        whole.codes();
        whole.ends();
        whole.laterThings();
        whole.order();
        codeLengths();
        inherited();
        largest();
        DUE.finish();
    }

    private Parts add(String name, int... some) {
        return parts.add(name, some);
    }

    /** Three classes, three methods: the first calls and sends; two are in slot 3 of class 0 and class 1 below it. */
    private void make() {
        add("C", 3);
        add("upper 0", 255).add("fields 0", 2).add("field 0", 0, 65).add("slots 0", 1).add("slot 0", 3)
            .add("told 0", 1);
        add("upper 1", 0).add("fields 1", 1).add("field 1", 3).add("slots 1", 1).add("slot 1", 3).add("told 1", 2);
        add("upper 2", 255).add("fields 2", 0).add("slots 2", 0);
        add("thrown", 0, 1, 2, 0, 1).add("M", 3);
        add("owner", 255).add("params", 0).add("gives", 255).add("L", 2).add("S", 4).add("length", 0, 27);
        add("NEW", 26, 1).add("STORE", 3, 0).add("LOAD", 2, 0).add("CONST", 0, 0, 0, 0, 9).add("SEND", 36, 0, 3);
        add("IF", 19, 4, 0, 0).add("GOTO", 25, 0, 21).add("LOAD 2", 2, 0).add("GET", 27, 1, 2).add("RETURN", 37);
        add("handlers", 1).add("from", 0, 0).add("to", 0, 27).add("class", 2).add("place", 0, 26);
        add("owner 1", 0).add("params 1", 1).add("param 1", 0).add("gives 1", 0).add("L 1", 2).add("S 1", 1);
        add("length 1", 0, 3).add("code 1", 2, 1, 38).add("handlers 1", 0);
        add("owner 2", 1).add("params 2", 1).add("param 2", 0).add("gives 2", 0).add("L 2", 2).add("S 2", 1);
        add("length 2", 0, 3).add("code 2", 2, 1, 38).add("handlers 2", 0);
        add("first", 0);
    }

    private static int answer(int[] image) {
        return Parts.answer(image);
    }

    private int[] with(String name, int offset, int b) {
        return parts.with(name, offset, b);
    }

    private void wrongWith(String name, int offset, int b) {
        DUE.due(name + " + " + offset + " = " + b, answer(with(name, offset, b)), -3 - parts.placeOf(name) - offset);
    }

    private void fineWith(String name, int offset, int b) {
        DUE.due(name + " + " + offset + " = " + b + " is fine", answer(with(name, offset, b)) >= 0, true);
    }

    private void ranges() {
        wrongWith("C", 0, 0);
        wrongWith("C", 0, 33);
        wrongWith("upper 0", 0, 0);
        wrongWith("upper 1", 0, 1);
        wrongWith("upper 1", 0, 254);
        wrongWith("fields 0", 0, 16);
        wrongWith("fields 1", 0, 14);
        wrongWith("field 0", 0, 4);
        wrongWith("field 0", 1, 63);
        wrongWith("field 0", 1, 68);
        wrongWith("field 1", 0, 255);
        wrongWith("field 1", 0, 97);
        fineWith("field 0", 1, 64);
        fineWith("field 0", 1, 67);
        fineWith("field 1", 0, 1);
        wrongWith("slots 0", 0, 17);
        wrongWith("slot 0", 0, 16);
        for (int i = 0; i < 5; i++) {
            wrongWith("thrown", i, 3);
            fineWith("thrown", i, 2);
        }
        wrongWith("M", 0, 0);
        wrongWith("M", 0, 65);
        wrongWith("owner", 0, 3);
        wrongWith("params", 0, 8);
        wrongWith("param 1", 0, 4);
        wrongWith("param 1", 0, 255);
        wrongWith("gives", 0, 4);
        wrongWith("L", 0, 13);
        wrongWith("L 1", 0, 1);
        wrongWith("S", 0, 11);
        fineWith("S", 0, 10);
        wrongWith("handlers", 0, 9);
        wrongWith("class", 0, 3);
        wrongWith("first", 0, 3);
        wrongWith("first", 0, 1);
    }

    private void codes() {
        wrongWith("NEW", 0, 42);
        wrongWith("NEW", 0, 255);
        wrongWith("NEW", 1, 3);
        wrongWith("STORE", 1, 2);
        wrongWith("LOAD", 1, 2);
        wrongWith("SEND", 1, 3);
        DUE.due("a class without the slot", answer(with("SEND", 1, 2)), -3 - parts.placeOf("SEND") - 2);
        wrongWith("SEND", 2, 2);
        wrongWith("SEND", 2, 16);
        wrongWith("IF", 1, 6);
        wrongWith("GET", 1, 3);
        wrongWith("GET", 2, 3);
        // One byte is left for an instruction that has two: wrong at its first one.
        wrongWith("RETURN", 0, 26);
        wrongWith("RETURN", 0, 0);
        wrongWith("code 1", 2, 25);
    }

    private void ends() {
        int[] image = parts.image();
        for (int n = 0; n < image.length; n++) {
            DUE.due("the first " + n + " bytes", answer(Arrays.copyOf(image, n)), -3 - n);
        }
        DUE.due("one byte more", answer(Arrays.copyOf(image, image.length + 1)), -3 - image.length);
        DUE.due("two bytes more", answer(Arrays.copyOf(image, image.length + 2)), -3 - image.length);
    }

    private void laterThings() {
        wrongWith("told 0", 0, 3);
        wrongWith("told 0", 0, 255);
        wrongWith("told 0", 0, 2);
        wrongWith("told 0", 0, 0);
        wrongWith("told 1", 0, 1);
        // Class 1 tells slot 3 anew: other parameters and another type that is given are wrong there.
        wrongAt("told 1", with("param 2", 0, 1));
        wrongAt("told 1", with("gives 2", 0, 64));
        DUE.due("a place of IF", answer(with("IF", 3, 1)), -3 - parts.placeOf("IF") - 2);
        DUE.due("a place of GOTO", answer(with("GOTO", 2, 22)), -3 - parts.placeOf("GOTO") - 1);
        DUE.due("the end is no place of a jump", answer(with("GOTO", 2, 27)), -3 - parts.placeOf("GOTO") - 1);
        wrongWith("GOTO", 1, 1);
        DUE.due("from", answer(with("from", 1, 1)), -3 - parts.placeOf("from"));
        DUE.due("from is to", answer(with("to", 1, 0)), -3 - parts.placeOf("from"));
        DUE.due("to", answer(with("to", 1, 20)), -3 - parts.placeOf("to"));
        DUE.due("to behind the end", answer(with("to", 1, 28)), -3 - parts.placeOf("to"));
        DUE.due("a handler's place", answer(with("place", 1, 27)), -3 - parts.placeOf("place"));
        fineWith("to", 1, 21);
    }

    private void wrongAt(String name, int[] image) {
        DUE.due("wrong at " + name, answer(image), -3 - parts.placeOf(name));
    }

    /** What is wrong as it is read comes before what is wrong by what stands behind it. */
    private void order() {
        int[] image = with("told 0", 0, 9);
        image[parts.placeOf("first")] = 77;
        wrongAt("first", image);
        int[] places = with("place", 1, 99);
        places[parts.placeOf("GOTO") + 2] = 99;
        DUE.due("the first place", answer(places), -3 - parts.placeOf("GOTO") - 1);
        int[] call = with("GET", 0, 35);
        call[parts.placeOf("GET") + 1] = 3;
        call[parts.placeOf("GET") + 2] = 4;
        DUE.due("no method", answer(call), -3 - parts.placeOf("GET") - 1);
    }

    /** The length of code is 1 .. 1,000: the first of its bytes that cannot stand there is wrong. */
    private static void codeLengths() {
        int high = 15;
        for (int length : new int[] {0, 1, 2, 255, 256, 999, 1000, 1001, 1023, 1024, 4096, 65535}) {
            int[] image = new int[18 + length + 2];
            int[] head = {1, 255, 0, 0, 0, 0, 0, 0, 0, 1, 255, 0, 255, 0, 0, length >> 8, length & 255};
            System.arraycopy(head, 0, image, 0, head.length);
            Arrays.fill(image, 17, 17 + length, 37);
            image[17 + length] = 0;
            image[18 + length] = 0;
            int[] whole = Arrays.copyOf(image, Math.min(4000, 19 + length));
            boolean fine = length >= 1 && length <= 1000;
            int wrong = length >= 1024 ? high : high + 1;
            DUE.due("code of " + length + " bytes", answer(whole), fine ? length : -3 - wrong);
        }
    }

    /** Fields of an upper class count, and slots rise. */
    private static void inherited() {
        int[] fifteen = new int[15];
        Code end = new Code().op(Op.RETURN);
        DUE.due("15 fields", new Maker().kind(255, fifteen).method(0, 0, end).load(new SteadyMachine()), 1);
        DUE.due("16 fields", new Maker().kind(255, new int[16]).method(0, 0, end).load(new SteadyMachine()), -5);
        DUE.due("15 fields and one more",
            new Maker().kind(255, fifteen).kind(0, new int[1]).method(0, 0, end).load(new SteadyMachine()), -3 - 20);
        DUE.due("15 fields and none more",
            new Maker().kind(255, fifteen).kind(0, new int[0]).method(0, 0, end).load(new SteadyMachine()), 1);
        Maker twice = new Maker().kind(255, new int[0], 4, 1, 4, 1).method(0, 0, end)
            .method(0, new int[0], 255, 1, 0, end);
        DUE.due("a slot twice", twice.load(new SteadyMachine()), -3 - 6);
        Maker falling = new Maker().kind(255, new int[0], 4, 1, 3, 1).method(0, 0, end)
            .method(0, new int[0], 255, 1, 0, end);
        DUE.due("slots that fall", falling.load(new SteadyMachine()), -3 - 6);
        Maker rising = new Maker().kind(255, new int[0], 4, 1, 15, 1).method(0, 0, end)
            .method(0, new int[0], 255, 1, 0, end);
        DUE.due("slots that rise", rising.load(new SteadyMachine()), 2);
        Maker noOwner = new Maker().kind(255, new int[0], 4, 1).method(0, 0, end).method(0, 0, end);
        DUE.due("a slot's method without owner", noOwner.load(new SteadyMachine()), -3 - 5);
        Maker parameters = new Maker().kind(255, new int[0]).method(255, new int[8], 255, 8, 0, end);
        DUE.due("8 parameters", parameters.load(new SteadyMachine()), -3 - 11);
        Maker firstGives = new Maker().kind(255, new int[0]).method(255, new int[0], 0, 0, 1, new Code().op(40, 38));
        DUE.due("a first method that gives", firstGives.load(new SteadyMachine()), -3 - 20);
        Maker firstOwned = new Maker().kind(255, new int[0]).method(0, new int[0], 255, 1, 0, end);
        DUE.due("a first method with owner", firstOwned.load(new SteadyMachine()), -3 - 19);
    }

    /** 32 classes, each below the one before, and 64 methods, with as much code as 8,000 bytes have room for. */
    private static void largest() {
        Maker maker = new Maker();
        for (int c = 0; c < 32; c++) {
            maker.kind(c == 0 ? 255 : c - 1, c < 15 ? Maker.types(c % 2 == 0 ? 32 : 96) : Maker.types(), c % 16, c);
        }
        maker.thrown(31, 31, 31, 31, 31);
        int instructions = 0;
        for (int m = 0; m < 63; m++) {
            Code code = new Code().op(Op.NEW, 31, Op.GET, 31, 14, Op.STORE, 1, Op.LOAD, 0, Op.STORE, 1);
            int pairs = m == 62 ? 480 : 43;
            for (int i = 0; i < pairs; i++) {
                code.op(Op.NULL, Op.POP);
            }
            maker.method(Math.min(m, 31), Maker.types(), 255, 2, 1, code.op(Op.RETURN));
            instructions += 6 + 2 * pairs;
        }
        maker.method(11, 1, new Code().op(Op.NEW, 31, Op.CALL, 62, Op.NEW, 31, Op.SEND, 31, 15, Op.RETURN)).first(63);
        int[] image = maker.image();
        SteadyMachine x = new SteadyMachine();
        DUE.due("the image is large", image.length > 7700 && image.length <= 8000, true);
        DUE.due("the largest image", Maker.load(x, image), instructions + 5);
        DUE.due("classes", x.count(5), 32);
        DUE.due("methods", x.count(6), 64);
        DUE.due("a class", x.stands(62, 5, 2, 0), 32);
        DUE.due("a class above", x.stands(31, 9, 2, 0), 32);
        DUE.due("the first parameter", x.stands(0, 0, 1, 0), 1);
        x.start(0, 0);
        DUE.due("run", x.run(20000), 1 + 1 + 966 + 1 + 1 + 92 + 1);
        DUE.due("state()", x.state(), 2);
        Code end = new Code().op(Op.RETURN);
        Maker many = new Maker();
        for (int c = 0; c < 32; c++) {
            many.kind(255, Maker.types(c == 0 ? 97 : 0));
        }
        DUE.due("a row of class 32", many.method(0, 0, end).load(new SteadyMachine()), -3 - 3);
        Maker other = new Maker();
        for (int c = 0; c < 32; c++) {
            other.kind(255, Maker.types(c == 1 ? 33 : 0));
        }
        DUE.due("class 32", other.method(0, 0, end).load(new SteadyMachine()), -3 - 7);
    }
}
