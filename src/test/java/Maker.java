import java.util.ArrayList;
import java.util.List;

/** Makes images. */
final class Maker {
    private final List<List<Integer>> classes = new ArrayList<>();
    private final List<List<Integer>> methods = new ArrayList<>();
    private final List<List<Integer>> handlers = new ArrayList<>();
    private final List<Code> codes = new ArrayList<>();
    private int[] thrown = {0, 0, 0, 0, 0};
    private int first;

    static int[] types(int... types) {
        return types;
    }

    /** A class; of its slots each slot is followed by its method. */
    Maker kind(int upper, int[] fields, int... slots) {
        List<Integer> one = new ArrayList<>();
        one.add(upper);
        one.add(fields.length);
        for (int type : fields) {
            one.add(type);
        }
        one.add(slots.length / 2);
        for (int b : slots) {
            one.add(b);
        }
        classes.add(one);
        return this;
    }

    Maker thrown(int... some) {
        thrown = some;
        return this;
    }

    Maker method(int owner, int[] params, int gives, int locals, int stack, Code code) {
        List<Integer> one = new ArrayList<>();
        one.add(owner);
        one.add(params.length);
        for (int type : params) {
            one.add(type);
        }
        one.add(gives);
        one.add(locals);
        one.add(stack);
        methods.add(one);
        codes.add(code);
        handlers.add(new ArrayList<>());
        return this;
    }

    /** A method without owner and parameters that gives nothing, the first one if no other is told. */
    Maker method(int locals, int stack, Code code) {
        return method(255, types(), 255, locals, stack, code);
    }

    /** A handler of the last method. */
    Maker handler(int from, int to, int kind, int place) {
        List<Integer> all = handlers.get(handlers.size() - 1);
        for (int b : new int[] {from >> 8, from & 255, to >> 8, to & 255, kind, place >> 8, place & 255}) {
            all.add(b);
        }
        return this;
    }

    Maker handler(String from, String to, int kind, String place) {
        Code code = codes.get(codes.size() - 1);
        return handler(code.placeOf(from), code.placeOf(to), kind, code.placeOf(place));
    }

    Maker first(int m) {
        first = m;
        return this;
    }

    int[] image() {
        List<Integer> all = new ArrayList<>();
        all.add(classes.size());
        for (List<Integer> one : classes) {
            all.addAll(one);
        }
        for (int c : thrown) {
            all.add(c);
        }
        all.add(methods.size());
        for (int m = 0; m < methods.size(); m++) {
            List<Integer> code = codes.get(m).done();
            all.addAll(methods.get(m));
            all.add(code.size() >> 8);
            all.add(code.size() & 255);
            all.addAll(code);
            all.add(handlers.get(m).size() / 7);
            all.addAll(handlers.get(m));
        }
        all.add(first);
        return all.stream().mapToInt(Integer::intValue).toArray();
    }

    /** Where in the image the code of a method begins. */
    int codePlace(int method) {
        int at = 1 + 5 + 1;
        for (List<Integer> one : classes) {
            at += one.size();
        }
        for (int m = 0; m < method; m++) {
            at += methods.get(m).size() + 2 + codes.get(m).size() + 1 + handlers.get(m).size();
        }
        return at + methods.get(method).size() + 2;
    }

    /** The five numbers that bring 20 bytes of an image from a place on, 0 behind its end. */
    static int[] numbers(int[] image, int from) {
        int[] five = new int[5];
        for (int i = 0; i < 20; i++) {
            int b = from + i < image.length ? image[from + i] : 0;
            five[i / 4] = five[i / 4] << 8 | b & 255;
        }
        return five;
    }

    static int load(SteadyMachine x, int[] image) {
        for (int from = 0; from < image.length; from += 20) {
            int[] five = numbers(image, from);
            x.feed(five[0], five[1], five[2], five[3], five[4]);
        }
        return x.end(image.length);
    }

    int load(SteadyMachine x) {
        return load(x, image());
    }
}
