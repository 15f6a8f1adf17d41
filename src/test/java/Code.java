import java.util.ArrayList;
import java.util.HashMap;
import java.util.List;
import java.util.Map;

/** Code of one method, with names for its places. */
final class Code {
    private final List<Integer> bytes = new ArrayList<>();
    private final Map<String, Integer> places = new HashMap<>();
    private final Map<Integer, String> open = new HashMap<>();

    Code op(int... some) {
        for (int b : some) {
            bytes.add(b);
        }
        return this;
    }

    Code number(int v) {
        return op(Op.CONST, v >>> 24, v >>> 16 & 255, v >>> 8 & 255, v & 255);
    }

    Code mark(String name) {
        places.put(name, bytes.size());
        return this;
    }

    Code jump(int op, String name) {
        op(op);
        return place(name);
    }

    Code jumpIf(int op, int question, String name) {
        op(op, question);
        return place(name);
    }

    private Code place(String name) {
        open.put(bytes.size(), name);
        return op(0, 0);
    }

    int size() {
        return bytes.size();
    }

    int placeOf(String name) {
        return places.get(name);
    }

    List<Integer> done() {
        for (Map.Entry<Integer, String> one : open.entrySet()) {
            int place = placeOf(one.getValue());
            bytes.set(one.getKey(), place >> 8);
            bytes.set(one.getKey() + 1, place & 255);
        }
        return bytes;
    }
}
