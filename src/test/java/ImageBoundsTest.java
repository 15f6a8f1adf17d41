import java.util.Arrays;
import java.util.function.IntPredicate;

/**
 * 'Terms', IMAGE and TYPES, and what is WRONG as it is read: of each number in an image all 256 bytes are tried, or
 * the last one on each side of its bounds. A test for each sentence, in the document's order.
 */
public final class ImageBoundsTest {
    private static final Due DUE = new Due();
    private static final int[] KINDS = {1, 2, 31, 32};

    public static void main(String[] args) {
        classes();
        upperClasses();
        fieldsOfItsOwn();
        fieldsWithThoseAbove();
        fieldTypes();
        slotsTold();
        slotNumbers();
        slotsRise();
        thrownClasses();
        methods();
        owners();
        parametersTold();
        parameterTypes();
        givenTypes();
        localsAndParameters();
        localsAndStack();
        codeLengths();
        handlersTold();
        handlerClasses();
        firstMethods();
        theEnd();
        oneMoreByte();
        fullTape();
        DUE.finish();
    }

    private static void fine(String what, Parts parts, int instructions) {
        DUE.due(what, parts.answer(), instructions);
    }

    private static void wrong(String what, Parts parts, String name) {
        DUE.due(what, parts.answer(), -3 - parts.placeOf(name));
    }

    /** A byte is wrong unless it is one of those that are fine; then the image is, with so many instructions. */
    private static void each(String what, Parts parts, String name, IntPredicate fine, int instructions) {
        for (int b = 0; b < 256; b++) {
            int due = fine.test(b) ? instructions : -3 - parts.placeOf(name);
            DUE.due(what + " = " + b, Parts.answer(parts.with(name, 0, b)), due);
        }
    }

    private static boolean isType(int b, int kinds) {
        return b <= kinds || b >= 64 && b <= 64 + kinds;
    }

    /** The number C of classes, 1 .. 32. */
    private static void classes() {
        for (int many : KINDS) {
            fine(many + " classes", new Parts().add("C", many).kinds(many).plainRest(), 1);
        }
        for (int many : new int[] {0, 33, 34, 255}) {
            wrong(many + " classes", new Parts().add("C", many).kinds(many).plainRest(), "C");
        }
    }

    /** Its UPPER class (less than c, or 255: none). */
    private static void upperClasses() {
        Parts parts = new Parts().add("C", 32).kinds(32).plainRest();
        for (int c = 0; c < 32; c++) {
            int own = c;
            each("upper class of " + c, parts, "upper " + c, b -> b < own || b == 255, 1);
        }
    }

    private static Parts fields(int upper, int own) {
        int above = upper < 0 ? 0 : upper;
        return new Parts().add("C", 2).add("class 0", 255, above).add("types 0", new int[above]).add("slots 0", 0)
            .add("upper", upper < 0 ? 255 : 0).add("fields", own).add("types", new int[own]).add("slots", 0)
            .plainRest();
    }

    /** Fields: at most 15, of a class that has none above. */
    private static void fieldsOfItsOwn() {
        for (int own : new int[] {0, 1, 14, 15}) {
            fine(own + " fields", fields(-1, own), 1);
        }
        for (int own : new int[] {16, 17, 255}) {
            wrong(own + " fields", fields(-1, own), "fields");
        }
    }

    /** Fields are those of the upper class, then its own: at most 15. */
    private static void fieldsWithThoseAbove() {
        for (int above = 0; above <= 15; above++) {
            fine(above + " fields and as many as can be", fields(above, 15 - above), 1);
            wrong(above + " fields and one too many", fields(above, 16 - above), "fields");
        }
        // Those of the upper class count with those above it.
        for (int last : new int[] {5, 6}) {
            Parts three = new Parts().add("C", 3).add("class 0", 255, 5, 0, 0, 0, 0, 0, 0)
                .add("class 1", 0, 5, 0, 0, 0, 0, 0, 0).add("upper", 1).add("fields", last)
                .add("types", new int[last]).add("slots", 0).plainRest();
            DUE.due("5, 5 and " + last + " fields", three.answer(), last == 5 ? 1 : -3 - three.placeOf("fields"));
        }
        // Those of another class do not.
        Parts beside = new Parts().add("C", 2).add("class 0", 255, 15).add("types 0", new int[15]).add("slots 0", 0)
            .add("class 1", 255, 15).add("types 1", new int[15]).add("slots 1", 0).plainRest();
        fine("15 fields twice", beside, 1);
    }

    /** TYPES: 0; 1 .. C; 64; 65 .. 64 + C. Of a field. */
    private static void fieldTypes() {
        for (int many : KINDS) {
            Parts parts = new Parts().add("C", many).add("class 0", 255, 1).add("type", 0).add("slots", 0)
                .kinds(many - 1).plainRest();
            each("a field's type, of " + many + " classes", parts, "type", b -> isType(b, many), 1);
        }
    }

    /** A class that tells so many slots from 0 on, all of them method 1. */
    private static Parts slots(int many) {
        Parts parts = new Parts().add("C", 1).add("upper", 255, 0).add("slots", many);
        for (int s = 0; s < many; s++) {
            parts.add("slot " + s, s, 1);
        }
        return parts.thrown().add("M", 2).plain().add("method 1", 0, 0, 255, 1, 0, 0, 1, 37, 0).add("first", 0);
    }

    /** How many SLOTS it tells (at most 16). */
    private static void slotsTold() {
        for (int many : new int[] {0, 1, 15, 16}) {
            fine(many + " slots", slots(many), 2);
        }
        for (int many : new int[] {17, 18, 255}) {
            wrong(many + " slots", slots(many), "slots");
        }
    }

    /** Of each the slot (0 .. 15). */
    private static void slotNumbers() {
        each("a slot", slots(1), "slot 0", b -> b <= 15, 2);
    }

    /** Of each the slot, rising. */
    private static void slotsRise() {
        for (int first = 0; first <= 15; first++) {
            Parts parts = new Parts().add("C", 2).add("class 0", 255, 0, 2, first, 1).add("second", 0, 1)
                .add("class 1", 255, 0, 1, 0, 2).thrown().add("M", 3).plain()
                .add("method 1", 0, 0, 255, 1, 0, 0, 1, 37, 0).add("method 2", 1, 0, 255, 1, 0, 0, 1, 37, 0)
                .add("first", 0);
            int before = first;
            // The other class begins with slot 0 again.
            each("a slot behind " + first, parts, "second", b -> b > before && b <= 15, 3);
        }
    }

    /** Five classes: THROWN 0 .. 4. */
    private static void thrownClasses() {
        for (int many : KINDS) {
            for (int i = 0; i < 5; i++) {
                Parts parts = new Parts().add("C", many).kinds(many).add("before", new int[i]).add("thrown", 0)
                    .add("behind", new int[4 - i]).add("M", 1).plain().add("first", 0);
                each("THROWN " + i + " of " + many + " classes", parts, "thrown", b -> b < many, 1);
            }
        }
    }

    private static Parts plainMethods(int many) {
        Parts parts = new Parts().add("C", 1).kinds(1).thrown().add("M", many);
        for (int m = 0; m < many; m++) {
            parts.plain();
        }
        return parts.add("first", Math.max(0, many - 1));
    }

    /** The number M of methods, 1 .. 64. */
    private static void methods() {
        for (int many : new int[] {1, 2, 63, 64}) {
            fine(many + " methods", plainMethods(many), many);
        }
        for (int many : new int[] {0, 65, 66, 255}) {
            wrong(many + " methods", plainMethods(many), "M");
        }
    }

    /** An image of so many classes whose method 1 is told here, up to how many locals it has. */
    private static Parts second(int kinds, int... told) {
        Parts parts = new Parts().add("C", kinds).kinds(kinds).thrown().add("M", 2).plain().add("owner", told[0])
            .add("params", told[1]);
        for (int i = 0; i < told[1]; i++) {
            parts.add("type " + i, told[3]);
        }
        return parts.add("gives", told[2]);
    }

    /** The rest of such a method, which returns, and of the image. */
    private static Parts rest(Parts parts, int locals) {
        return parts.add("L", locals).add("S", 0).add("length", 0, 1).add("code", 37).add("handlers", 0)
            .add("first", 0);
    }

    /** Its OWNER, a class (255: none). */
    private static void owners() {
        for (int many : KINDS) {
            Parts parts = rest(second(many, 255, 0, 255, 0), 1);
            each("an owner of " + many + " classes", parts, "owner", b -> b < many || b == 255, 2);
        }
    }

    /** How many parameters are told, at most 7. */
    private static void parametersTold() {
        for (int owner : new int[] {255, 0}) {
            int more = owner == 255 ? 0 : 1;
            for (int told = 0; told <= 7; told++) {
                fine(told + " parameters, owner " + owner, rest(second(1, owner, told, 255, 0), told + more), 2);
            }
            for (int told : new int[] {8, 9, 255}) {
                wrong(told + " parameters, owner " + owner, rest(second(1, owner, told, 255, 0), 12), "params");
            }
        }
    }

    /** And the type of each. */
    private static void parameterTypes() {
        for (int many : KINDS) {
            Parts parts = rest(second(many, 255, 7, 255, 0), 7);
            for (int i : new int[] {0, 6}) {
                each("the type of parameter " + i, parts, "type " + i, b -> isType(b, many), 2);
            }
        }
    }

    /** The type that it gives (255: nothing). */
    private static void givenTypes() {
        for (int many : KINDS) {
            // The second method goes around for ever, so that it may give what it likes.
            Parts parts = second(many, 255, 0, 255, 0).add("L", 0).add("S", 0).add("length", 0, 3)
                .add("code", 25, 0, 0).add("handlers", 0).add("first", 0);
            each("the type that it gives", parts, "gives", b -> isType(b, many) || b == 255, 2);
        }
    }

    /** How many locals L it has (at most 12); at least as many as parameters, the one of the owner with them. */
    private static void localsAndParameters() {
        for (int owner : new int[] {255, 0}) {
            for (int told = 0; told <= 7; told++) {
                int least = told + (owner == 255 ? 0 : 1);
                Parts parts = rest(second(1, owner, told, 255, 0), least);
                each("L of " + least + " parameters", parts, "L", b -> b >= least && b <= 12, 2);
            }
        }
    }

    /** How many places of a stack S, L + S at most 12. */
    private static void localsAndStack() {
        for (int locals = 0; locals <= 12; locals++) {
            int has = locals;
            Parts parts = rest(second(1, 255, 0, 255, 0), locals);
            each("S of " + locals + " locals", parts, "S", b -> b <= 12 - has, 2);
        }
    }

    /** How many bytes its code has (two bytes), 1 .. 1,000; these. */
    private static void codeLengths() {
        int[] lengths = {0, 1, 2, 255, 256, 257, 511, 512, 767, 768, 999, 1000, 1001, 1023, 1024, 1279, 1280, 65535};
        for (int length : lengths) {
            int[] code = new int[Math.min(length, 2000)];
            Arrays.fill(code, 37);
            Parts parts = new Parts().add("C", 1).kinds(1).thrown().add("M", 1).add("method", 255, 0, 255, 0, 0)
                .add("high", length >> 8).add("low", length & 255).add("code", code).add("handlers", 0)
                .add("first", 0);
            if (length >= 1 && length <= 1000) {
                fine("code of " + length + " bytes", parts, length);
            } else {
                wrong("code of " + length + " bytes", parts, length >= 1024 ? "high" : "low");
            }
        }
    }

    private static Parts handlers(int kinds, int many) {
        Parts parts = new Parts().add("C", kinds).kinds(kinds).thrown().add("M", 1)
            .add("method", 255, 0, 255, 0, 1, 0, 2, 37, 37).add("handlers", many);
        for (int i = 0; i < many; i++) {
            parts.add("places " + i, 0, 0, 0, 1).add("class " + i, 0).add("place " + i, 0, 1);
        }
        return parts.add("first", 0);
    }

    /** How many HANDLERS, at most 8. */
    private static void handlersTold() {
        for (int many : new int[] {0, 1, 7, 8}) {
            fine(many + " handlers", handlers(1, many), 2);
        }
        for (int many : new int[] {9, 10, 255}) {
            wrong(many + " handlers", handlers(1, many), "handlers");
        }
    }

    /** Of each a place from, a place to, a class, a place. */
    private static void handlerClasses() {
        for (int many : KINDS) {
            for (int i : new int[] {0, 7}) {
                each("the class of handler " + i, handlers(many, 8), "class " + i, b -> b < many, 2);
            }
        }
    }

    /** At last a method without owner and parameters that gives nothing: the FIRST one. */
    private static void firstMethods() {
        Parts parts = new Parts().add("C", 1).kinds(1).thrown().add("M", 6).add("with owner", 0, 0, 255, 1, 0, 0, 1,
            37, 0).plain().add("with a parameter", 255, 1, 0, 255, 1, 0, 0, 1, 37, 0).add("gives an int", 255, 0, 0, 0,
            0, 0, 3, 25, 0, 0, 0).add("gives a class", 255, 0, 1, 0, 1, 0, 2, 1, 38, 0).plain().add("first", 1);
        each("the first method", parts, "first", b -> b == 1 || b == 5, 7);
        Parts most = plainMethods(64);
        each("the first method of 64", most, "first", b -> b < 64, 64);
    }

    private static Parts rich() {
        return new Parts().add("C", 2).add("class 0", 255, 2, 0, 66, 1, 15, 1).add("class 1", 0, 1, 2, 1, 15, 2)
            .thrown().add("M", 3).add("method 0", 255, 0, 255, 1, 2, 0, 17).add("code 0", 0, 1, 2, 3, 4, 3, 0, 26, 1,
            2, 0, 36, 1, 15, 25, 0, 0).add("handlers 0", 1, 0, 0, 0, 5, 1, 0, 7)
            .add("method 1", 0, 1, 0, 255, 2, 0, 0, 1, 37, 0).add("method 2", 1, 1, 0, 255, 2, 0, 0, 1, 37, 0)
            .add("first", 0);
    }

    /** The end, too, is wrong where a byte is due: after each byte of the image, before the last one. */
    private static void theEnd() {
        Parts parts = rich();
        int[] image = parts.image();
        int whole = parts.answer();
        // The handler's place is come to with a stack that does not fit: the image is read to its end, then verified.
        DUE.due("the whole image is read", whole >= 0 || whole <= -10003, true);
        for (int n = 0; n < image.length; n++) {
            DUE.due("the first " + n + " bytes", Parts.answer(Arrays.copyOf(image, n)), -3 - n);
        }
        // More bytes on the tape, behind the first n, are not the image's.
        for (int n : new int[] {0, 1, image.length - 1}) {
            SteadyMachine x = new SteadyMachine();
            for (int from = 0; from < image.length; from += 20) {
                int[] five = Maker.numbers(image, from);
                x.feed(five[0], five[1], five[2], five[3], five[4]);
            }
            DUE.due("end(" + n + ") of a longer tape", x.end(n), -3 - n);
        }
    }

    /** One more byte behind the image is wrong, whatever it is and whatever stands behind it. */
    private static void oneMoreByte() {
        int[] image = new Parts().add("C", 1).kinds(1).plainRest().image();
        DUE.due("the image", Parts.answer(image), 1);
        for (int more : new int[] {1, 2, 3, 100}) {
            for (int b : new int[] {0, 1, 37, 255}) {
                int[] longer = Arrays.copyOf(image, image.length + more);
                Arrays.fill(longer, image.length, longer.length, b);
                DUE.due(more + " bytes more", Parts.answer(longer), -3 - image.length);
            }
        }
    }

    /** An image may have all 8,000 bytes of the tape; a byte that is due behind them is wrong at place 8,000. */
    private static void fullTape() {
        int[] image = new int[8000];
        int[] head = new Parts().add("C", 1).kinds(1).thrown().add("M", 9).image();
        System.arraycopy(head, 0, image, 0, head.length);
        int at = head.length;
        int left = 8000 - head.length - 1;
        for (int m = 0; m < 9; m++) {
            int length = Math.min(1000, left - 8 - (8 - m) * 9);
            int[] method = {255, 0, 255, 0, 0, length >> 8, length & 255};
            System.arraycopy(method, 0, image, at, method.length);
            Arrays.fill(image, at + 7, at + 7 + length, 37);
            at += 8 + length;
            left -= 8 + length;
        }
        image[at] = 8;
        DUE.due("the last byte", at, 7999);
        DUE.due("an image of 8,000 bytes", Parts.answer(image), 8000 - 11 - 9 * 8);
        image[at] = 9;
        DUE.due("its last byte is wrong", Parts.answer(image), -3 - 7999);
        // With one method more the last byte is its owner, and the next one is not there.
        image[head.length - 1] = 10;
        image[at] = 255;
        DUE.due("a byte behind 8,000", Parts.answer(image), -3 - 8000);
    }
}
