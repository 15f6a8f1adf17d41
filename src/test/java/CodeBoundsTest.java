import java.util.Arrays;
import java.util.function.IntPredicate;

/**
 * 'Terms', CODE, and what is WRONG: the bounds of instructions and their operands as they are read, and then the
 * first byte of what is wrong by what stands elsewhere in the image. A test for each sentence.
 */
public final class CodeBoundsTest {
    private static final Due DUE = new Due();

    public static void main(String[] args) {
        instructions();
        locals();
        noLocals();
        questions();
        classes();
        fields();
        rowTypes();
        slots();
        numbersAreFree();
        noMoreBytes();
        beforeItsOperands();
        theEndInCode();
        slotMethods();
        slotsLikeAbove();
        slotsLikeFarAbove();
        calledMethods();
        jumpPlaces();
        handlerPlaces();
        readBeforeLinked();
        firstByPlace();
        DUE.finish();
    }

    /** Classes 0, with fields and slots, 1 below it with more, 2 without; the code is behind a RETURN, not come to. */
    private static Parts dead(int locals, int... code) {
        return new Parts().add("C", 3).add("class 0", 255, 2, 0, 0, 2, 0, 1, 5, 1).add("class 1", 0, 1, 0, 1, 15, 2)
            .add("class 2", 255, 0, 0).thrown().add("M", 3).add("method", 255, 0, 255, locals, 0)
            .add("length", code.length + 1 >> 8, code.length + 1 & 255).add("before", 37).add("code", code)
            .add("handlers", 0).add("method 1", 0, 0, 255, 1, 0, 0, 1, 37, 0)
            .add("method 2", 1, 0, 255, 1, 0, 0, 1, 37, 0).add("first", 0);
    }

    /** Of all 256 bytes at a place in the code all are wrong but those that are fine. */
    private static void each(String what, Parts parts, int offset, IntPredicate fine, int instructions) {
        for (int b = 0; b < 256; b++) {
            int due = fine.test(b) ? instructions : -3 - parts.placeOf("code") - offset;
            DUE.due(what + " = " + b, Parts.answer(parts.with("code", offset, b)), due);
        }
    }

    /** Instructions are 0 .. 41. */
    private static void instructions() {
        for (int op = 0; op < 256; op++) {
            int size = op <= Op.OUT ? Op.size(op) : 1;
            int[] code = new int[size];
            code[0] = op;
            Parts parts = dead(1, code);
            DUE.due("instruction " + op, parts.answer(), op <= Op.OUT ? 4 : -3 - parts.placeOf("code"));
        }
    }

    /** LOAD n, STORE n (n a local). */
    private static void locals() {
        for (int many = 1; many <= 12; many++) {
            int has = many;
            each("LOAD of " + many, dead(many, Op.LOAD, 0), 1, b -> b < has, 4);
            each("STORE of " + many, dead(many, Op.STORE, 0), 1, b -> b < has, 4);
        }
    }

    private static void noLocals() {
        each("LOAD without locals", dead(0, Op.LOAD, 0), 1, b -> false, 4);
        each("STORE without locals", dead(0, Op.STORE, 0), 1, b -> false, 4);
    }

    /** IF q p, IFC q p (q 0 .. 5). */
    private static void questions() {
        each("IF", dead(0, Op.IF, 0, 0, 0), 1, b -> b <= 5, 4);
        each("IFC", dead(0, Op.IFC, 0, 0, 0), 1, b -> b <= 5, 4);
    }

    /** A class: of NEW, GET, PUT, IS, CAST and SEND. */
    private static void classes() {
        each("NEW", dead(0, Op.NEW, 0), 1, b -> b < 3, 4);
        each("IS", dead(0, Op.IS, 0), 1, b -> b < 3, 4);
        each("CAST", dead(0, Op.CAST, 0), 1, b -> b < 3, 4);
        for (int op : new int[] {Op.GET, Op.PUT, Op.SEND}) {
            Parts parts = dead(0, op, 0, 0);
            for (int b = 0; b < 256; b++) {
                int answer = Parts.answer(parts.with("code", 1, b));
                // Class 2 has neither a field nor a slot: the next byte is wrong then.
                int due = b < 2 ? 4 : -3 - parts.placeOf("code") - (b == 2 ? 2 : 1);
                DUE.due("the class of " + op + " = " + b, answer, due);
            }
        }
    }

    /** A class and one of its fields, those of its upper class with them. */
    private static void fields() {
        int[] many = {2, 3, 0};
        for (int op : new int[] {Op.GET, Op.PUT}) {
            for (int c = 0; c < 3; c++) {
                int has = many[c];
                each("a field of class " + c, dead(0, op, c, 0), 2, b -> b < has, 4);
            }
        }
    }

    /** ROW t (0 or 1 .. C). */
    private static void rowTypes() {
        each("ROW", dead(0, Op.ROW, 0), 1, b -> b <= 3, 4);
    }

    /** A class and a slot that it has, those of its upper class with them. */
    private static void slots() {
        each("a slot of class 0", dead(0, Op.SEND, 0, 0), 2, b -> b == 0 || b == 5, 4);
        each("a slot of class 1", dead(0, Op.SEND, 1, 0), 2, b -> b == 0 || b == 5 || b == 15, 4);
        each("a slot of class 2", dead(0, Op.SEND, 2, 0), 2, b -> false, 4);
    }

    /** CONST i: any four bytes. */
    private static void numbersAreFree() {
        for (int i = 1; i <= 4; i++) {
            each("byte " + i + " of CONST", dead(0, Op.CONST, 42, 255, 254, 128), i, b -> true, 4);
        }
    }

    /** Of code an instruction that has no more bytes in it is wrong at its first byte. */
    private static void noMoreBytes() {
        for (int op = 0; op <= Op.OUT; op++) {
            for (int has = 1; has <= Op.size(op); has++) {
                int[] code = new int[has];
                code[0] = op;
                Parts parts = dead(1, code);
                int due = has == Op.size(op) ? 4 : -3 - parts.placeOf("code");
                DUE.due(op + " with " + has + " bytes", parts.answer(), due);
            }
        }
    }

    /** Before any of its operands: what is there of them is wrong, too, but later. */
    private static void beforeItsOperands() {
        for (int op : new int[] {Op.IF, Op.IFC, Op.GET, Op.PUT, Op.SEND}) {
            Parts parts = dead(1, op, 255);
            DUE.due(op + " with a wrong operand and no more", parts.answer(), -3 - parts.placeOf("code"));
        }
        // It is told by the length of the code alone, even where the image ends.
        for (int op : new int[] {Op.CONST, Op.LOAD, Op.GOTO, Op.NEW, Op.SEND}) {
            Parts parts = dead(1, op);
            int[] image = Arrays.copyOf(parts.image(), parts.placeOf("code") + 1);
            DUE.due(op + " at the end of all", Parts.answer(image), -3 - parts.placeOf("code"));
        }
    }

    /** An instruction whose bytes are in the code, but not in the image, is wrong at the end. */
    private static void theEndInCode() {
        for (int op = 0; op <= Op.OUT; op++) {
            int[] code = new int[Op.size(op)];
            code[0] = op;
            Parts parts = dead(1, code);
            for (int has = 0; has < code.length; has++) {
                int n = parts.placeOf("code") + has;
                DUE.due(op + " and the end", Parts.answer(Arrays.copyOf(parts.image(), n)), -3 - n);
            }
        }
    }

    private static int[] method(int owner, int gives, int... params) {
        int locals = params.length + (owner == 255 ? 0 : 1);
        int[] head = {owner, params.length};
        int[] rest = {gives, locals, 0, 0, 3, Op.GOTO, 0, 0, 0};
        int[] all = Arrays.copyOf(head, 2 + params.length + rest.length);
        System.arraycopy(params, 0, all, 2, params.length);
        System.arraycopy(rest, 0, all, 2 + params.length, rest.length);
        return all;
    }

    /** A slot's method that is none, or has another owner. */
    private static void slotMethods() {
        Parts parts = new Parts().add("C", 2).add("class 0", 255, 0, 0).add("class 1", 0, 0, 1, 3).add("told", 4)
            .thrown().add("M", 7).plain().add("1", method(0, 255)).add("2", method(255, 255))
            .add("3", method(255, 255, 2)).add("4", method(1, 255)).add("5", method(0, 255)).add("6", method(1, 0, 0))
            .add("first", 0);
        for (int b = 0; b < 256; b++) {
            int due = b == 4 || b == 6 ? 7 : -3 - parts.placeOf("told");
            DUE.due("a slot's method = " + b, Parts.answer(parts.with("told", 0, b)), due);
        }
        // Class 0 owns all methods here that have an owner: those that are none are wrong as well.
        Parts first = new Parts().add("C", 1).add("class 0", 255, 0, 1, 3).add("told", 1).thrown().add("M", 3).plain()
            .add("1", method(0, 255)).add("2", method(0, 255)).add("first", 0);
        for (int b = 0; b < 256; b++) {
            int due = b == 1 || b == 2 ? 3 : -3 - first.placeOf("told");
            DUE.due("a method of the first class = " + b, Parts.answer(first.with("told", 0, b)), due);
        }
        // Method 0 may be in a slot as well as the others.
        Parts zero = new Parts().add("C", 1).add("class 0", 255, 0, 1, 3).add("told", 0).thrown().add("M", 2)
            .add("0", method(0, 255)).plain().add("first", 1);
        DUE.due("method 0 in a slot", zero.answer(), 2);
    }

    /** Class 1 below class 0 tells a slot, too, and slot 4 of its own; method 1 is class 0's there. */
    private static void likeAbove(String what, boolean fine, int[] above, int[] below) {
        Parts parts = new Parts().add("C", 2).add("class 0", 255, 0, 1, 3, 1).add("class 1", 0, 0, 2, 3)
            .add("told", 2).add("other", 4, 2).thrown().add("M", 3).plain().add("1", above).add("2", below)
            .add("first", 0);
        DUE.due(what, parts.answer(), fine ? 3 : -3 - parts.placeOf("told"));
        // Where the upper class does not have that slot, all is fine.
        DUE.due(what + ", in another slot", Parts.answer(parts.with("class 0", 3, 2)), 3);
    }

    /** Or, where the upper class has that slot, other parameters (but the first) or gives another type. */
    private static void slotsLikeAbove() {
        likeAbove("the same", true, method(0, 255), method(1, 255));
        likeAbove("the same with parameters", true, method(0, 1, 0, 65, 2), method(1, 1, 0, 65, 2));
        likeAbove("seven parameters", true, method(0, 64, 0, 0, 0, 0, 0, 0, 1), method(1, 64, 0, 0, 0, 0, 0, 0, 1));
        likeAbove("another seventh", false, method(0, 64, 0, 0, 0, 0, 0, 0, 1), method(1, 64, 0, 0, 0, 0, 0, 0, 2));
        likeAbove("another first one of those told", false, method(0, 255, 0, 1), method(1, 255, 1, 1));
        likeAbove("a class below", false, method(0, 255, 1), method(1, 255, 2));
        likeAbove("a class above", false, method(0, 255, 2), method(1, 255, 1));
        likeAbove("a row of a class below", false, method(0, 255, 65), method(1, 255, 66));
        likeAbove("one more", false, method(0, 255, 0), method(1, 255, 0, 0));
        likeAbove("one less", false, method(0, 255, 0, 0), method(1, 255, 0));
        likeAbove("one instead of none", false, method(0, 255), method(1, 255, 0));
        likeAbove("gives a class below", false, method(0, 1), method(1, 2));
        likeAbove("gives a class above", false, method(0, 2), method(1, 1));
        likeAbove("gives an int", false, method(0, 255), method(1, 0));
        likeAbove("gives nothing", false, method(0, 0), method(1, 255));
    }

    /** The upper class has a slot, too, where one above it tells it; the method there is what the upper one tells. */
    private static void slotsLikeFarAbove() {
        for (int type : new int[] {0, 1}) {
            Parts parts = new Parts().add("C", 3).add("class 0", 255, 0, 1, 15, 1).add("class 1", 0, 0, 0)
                .add("class 2", 1, 0, 1, 15).add("told", 2).thrown().add("M", 3).plain().add("1", method(0, 255, 0))
                .add("2", method(2, 255, type)).add("first", 0);
            DUE.due("a slot of the class far above", parts.answer(), type == 0 ? 3 : -3 - parts.placeOf("told"));
            // Beside the others, class 2 has no slot above.
            DUE.due("a slot of a class alone", Parts.answer(parts.with("class 2", 0, 255)), 3);
        }
        // Class 0 has the slot as well, but is not above: class 1 tells it first.
        for (int type : new int[] {0, 1}) {
            Parts parts = new Parts().add("C", 3).add("class 0", 255, 0, 1, 15, 1).add("class 1", 255, 0, 1, 15, 2)
                .add("class 2", 1, 0, 1, 15).add("told", 3).thrown().add("M", 4).plain().add("1", method(0, 255, 1))
                .add("2", method(1, 255, 0)).add("3", method(2, 255, type)).add("first", 0);
            DUE.due("a slot of the upper class alone", parts.answer(), type == 0 ? 4 : -3 - parts.placeOf("told"));
        }
        // All three tell it; the one in the middle is wrong first, though the last one is like that.
        Parts parts = new Parts().add("C", 3).add("class 0", 255, 0, 1, 15, 1).add("class 1", 0, 0, 1, 15)
            .add("middle", 2).add("class 2", 1, 0, 1, 15).add("last", 3).thrown().add("M", 5).plain()
            .add("1", method(0, 255, 0)).add("2", method(1, 255, 1)).add("3", method(2, 255, 1))
            .add("4", method(1, 255, 0)).add("first", 0);
        DUE.due("the middle one", parts.answer(), -3 - parts.placeOf("middle"));
        DUE.due("the last one", Parts.answer(parts.with("middle", 0, 4)), -3 - parts.placeOf("last"));
    }

    /** An operand m that is no method. */
    private static void calledMethods() {
        each("CALL of 3 methods", dead(0, Op.CALL, 0), 1, b -> b < 3, 4);
        Parts one = new Parts().add("C", 1).kinds(1).thrown().add("M", 1)
            .add("method", 255, 0, 255, 0, 0, 0, 3, 37).add("code", Op.CALL, 0).add("rest", 0, 0);
        each("CALL of one method", one, 1, b -> b < 1, 2);
        Parts most = new Parts().add("C", 1).kinds(1).thrown().add("M", 64)
            .add("method", 255, 0, 255, 0, 0, 0, 3, 37).add("code", Op.CALL, 0).add("handlers", 0);
        for (int m = 1; m < 64; m++) {
            most.plain();
        }
        each("CALL of 64 methods", most.add("first", 0), 1, b -> b < 64, 65);
    }

    /** Places of code at which no instruction of it begins: of jumps; the end is none. */
    private static void jumpPlaces() {
        for (int op : new int[] {Op.IF, Op.IFC, Op.IFNULL, Op.IFSOME, Op.IFSAME, Op.IFOTHER, Op.GOTO}) {
            boolean asks = op <= Op.IFC;
            int[] code = asks ? new int[] {op, 0, 0, 0, 0, 9, 9, 9, 9, 37} : new int[] {op, 0, 0, 0, 9, 9, 9, 9, 37};
            int at = asks ? 2 : 1;
            int last = code.length;
            // RETURN at 0, the jump at 1, CONST behind it, RETURN at the end.
            int[] begins = {0, 1, at + 3, last};
            Parts parts = dead(0, code);
            int[] tried = {0, 1, 2, 3, 4, 5, 6, 7, 8, 9, 10, 11, 255, 256, 257, 32767, 32768, 65535};
            for (int place : tried) {
                int[] image = parts.with("code", at, place >> 8);
                image[parts.placeOf("code") + at + 1] = place & 255;
                boolean fine = Arrays.stream(begins).anyMatch(b -> b == place);
                DUE.due(op + " to " + place, Parts.answer(image), fine ? 6 : -3 - parts.placeOf("code") - at);
            }
        }
        // A place beyond 255 is told by both bytes.
        Parts far = far();
        int end = 300;
        for (int place : new int[] {255, 256, end - 1, end}) {
            int[] image = far.with("jump", 1, place >> 8);
            image[far.placeOf("jump") + 2] = place & 255;
            DUE.due("GOTO " + place, Parts.answer(image), place < end ? 298 : -3 - far.placeOf("jump") - 1);
        }
    }

    /** Code of 300 bytes: GOTO and 297 RETURNs. */
    private static Parts far() {
        int[] returns = new int[297];
        Arrays.fill(returns, 37);
        return new Parts().add("C", 1).kinds(1).thrown().add("M", 1).add("method", 255, 0, 255, 0, 0, 1, 44)
            .add("jump", Op.GOTO, 0, 0).add("code", returns).add("rest", 0, 0);
    }

    /** Of a handler's to also the end; its from not below its to, at its from; else as of jumps. */
    private static void handlerPlaces() {
        int[] begins = {0, 1, 3, 8};
        int length = 9;
        int[] tried = {0, 1, 2, 3, 4, 7, 8, 9, 10, 256, 257, 65535};
        Parts parts = new Parts().add("C", 1).kinds(1).thrown().add("M", 1).add("method", 255, 0, 255, 0, 4, 0, length)
            .add("code", 37, Op.NEW, 0, Op.CONST, 0, 0, 0, 0, 37).add("handlers", 1).add("from", 0, 0).add("to", 0, 1)
            .add("class", 0).add("place", 0, 1).add("first", 0);
        DUE.due("the image itself", parts.answer(), 4);
        for (int from : tried) {
            for (int to : tried) {
                for (int place : tried) {
                    int[] image = parts.image();
                    put(image, parts.placeOf("from"), from);
                    put(image, parts.placeOf("to"), to);
                    put(image, parts.placeOf("place"), place);
                    boolean fromFine = Arrays.binarySearch(begins, from) >= 0 && from < to;
                    boolean toFine = Arrays.binarySearch(begins, to) >= 0 || to == length;
                    boolean placeFine = Arrays.binarySearch(begins, place) >= 0;
                    int due = !fromFine ? parts.placeOf("from") : !toFine ? parts.placeOf("to")
                        : !placeFine ? parts.placeOf("place") : -1;
                    DUE.due(from + " .. " + to + " at " + place, wrongPlace(Parts.answer(image)), due);
                }
            }
        }
    }

    private static void put(int[] image, int at, int place) {
        image[at] = place >> 8;
        image[at + 1] = place & 255;
    }

    /** The place of the byte that is wrong, or -1. */
    private static int wrongPlace(int answer) {
        return answer <= -3 && answer > -10003 ? -3 - answer : -1;
    }

    /** What is wrong as it is read is wrong before all that is wrong by what stands elsewhere. */
    private static void readBeforeLinked() {
        Parts parts = twoMethods();
        int[] image = spoilt(parts, "told", "call 0", "call", "jump", "from", "to", "place", "jump 2");
        DUE.due("all but what is read", wrongPlace(Parts.answer(image)), parts.placeOf("told"));
        int[] longer = Arrays.copyOf(image, image.length + 1);
        DUE.due("one more byte", wrongPlace(Parts.answer(longer)), image.length);
        int[] shorter = Arrays.copyOf(image, image.length - 1);
        DUE.due("the end", wrongPlace(Parts.answer(shorter)), image.length - 1);
        image[parts.placeOf("first")] = 1;
        DUE.due("the last byte of the image", wrongPlace(Parts.answer(image)), parts.placeOf("first"));
        // And all that is wrong comes before what is bad.
        int[] bad = spoilt(parts, "jump 2");
        bad[parts.placeOf("code")] = Op.POP;
        DUE.due("a place and what is bad", wrongPlace(Parts.answer(bad)), parts.placeOf("jump 2"));
    }

    private static int[] spoilt(Parts parts, String... names) {
        int[] image = parts.image();
        for (String name : names) {
            image[parts.placeOf(name)] = 77;
        }
        return image;
    }

    /** Second, the first byte, by its place in the image, of those. */
    private static void firstByPlace() {
        Parts parts = twoMethods();
        DUE.due("none of them", parts.answer(), 7);
        String[] names = {"told", "call 0", "call", "jump", "from", "to", "place", "jump 2"};
        for (int i = 0; i < names.length; i++) {
            for (int j = i; j < names.length; j++) {
                int[] image = spoilt(parts, names[i], names[j]);
                DUE.due(names[i] + " and " + names[j], wrongPlace(Parts.answer(image)), parts.placeOf(names[i]));
            }
        }
    }

    /** All that can be wrong second: method 1 is in a slot of class 0. */
    private static Parts twoMethods() {
        return new Parts().add("C", 1).add("class", 255, 0, 1, 0).add("told", 1).thrown().add("M", 2)
            .add("method", 255, 0, 255, 0, 1, 0, 9).add("code", 37, Op.CALL).add("call 0", 0).add("CALL", Op.CALL)
            .add("call", 0).add("goto", Op.GOTO).add("jump", 0, 0).add("end", 37).add("handlers", 1).add("from", 0, 1)
            .add("to", 0, 9).add("class 1", 0).add("place", 0, 8).add("method 1", 0, 0, 255, 1, 0, 0, 4)
            .add("code 1", Op.GOTO).add("jump 2", 0, 0).add("end 1", 37).add("handlers 2", 0).add("first", 0);
    }
}
