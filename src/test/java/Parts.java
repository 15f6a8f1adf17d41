import java.util.ArrayList;
import java.util.HashMap;
import java.util.List;
import java.util.Map;

/** The bytes of an image, with names for their places. */
final class Parts {
    private final List<Integer> bytes = new ArrayList<>();
    private final Map<String, Integer> names = new HashMap<>();

    Parts add(String name, int... some) {
        names.put(name, bytes.size());
        for (int b : some) {
            bytes.add(b);
        }
        return this;
    }

    int placeOf(String name) {
        return names.get(name);
    }

    int[] image() {
        return bytes.stream().mapToInt(Integer::intValue).toArray();
    }

    int[] with(String name, int offset, int b) {
        int[] image = image();
        image[placeOf(name) + offset] = b;
        return image;
    }

    int answer() {
        return answer(image());
    }

    static int answer(int[] image) {
        return Maker.load(new SteadyMachine(), image);
    }

    /** Classes that are alone, without fields and slots. */
    Parts kinds(int many) {
        for (int c = 0; c < many; c++) {
            add("upper " + c, 255).add("fields " + c, 0).add("slots " + c, 0);
        }
        return this;
    }

    Parts thrown() {
        return add("thrown", 0, 0, 0, 0, 0);
    }

    /** A method without owner and parameters that gives nothing, has no locals and no stack, and returns. */
    Parts plain() {
        return add("plain", 255, 0, 255, 0, 0, 0, 1, 37, 0);
    }

    /** What an image has behind its classes, with such a method alone. */
    Parts plainRest() {
        return thrown().add("M", 1).plain().add("first", 0);
    }
}
