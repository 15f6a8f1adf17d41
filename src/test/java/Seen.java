/** All that can be seen of an object, in a text: what a refused call must leave as it was. */
final class Seen {
    private final StringBuilder text = new StringBuilder();

    private Seen() {
    }

    /** Some 200 calls; the state is left out when it is the one thing that may change. */
    static String of(SteadyMachine x, boolean withState) {
        Seen seen = new Seen();
        if (withState) {
            seen.add("state", x.state());
        }
        for (int what = 0; what <= 6; what++) {
            seen.add("count" + what, x.count(what));
        }
        for (int what = 0; what <= 4; what++) {
            seen.add("told" + what, x.told(what));
        }
        for (int i : new int[] {0, 1, 2, 999, 1000}) {
            seen.add("out" + i, x.out(i));
        }
        seen.frames(x);
        seen.add("steady", x.steady() ? 1 : 0);
        for (int other = 1; other < 4; other++) {
            seen.add("same" + other, x.same(0, other) ? 1 : 0);
        }
        for (int place = 0; place < 8; place++) {
            seen.add("stands" + place, x.stands(0, place, 0, 0));
            seen.add("local" + place, x.stands(0, place, 1, 0));
            seen.add("stack" + place, x.stands(0, place, 2, 0));
        }
        return seen.text.toString();
    }

    private void frames(SteadyMachine x) {
        for (int f = -1; f < 3; f++) {
            for (int what = 0; what < 4; what++) {
                add("frame" + f, x.frame(f, what));
            }
            for (int k = 0; k < (f < 0 ? 1 : 6); k++) {
                for (int what = 0; what < 3; what++) {
                    add("value" + f + "," + k, x.value(f, k, 0, what));
                    add("part" + f + "," + k, x.value(f, k, 1, what));
                }
            }
        }
    }

    private void add(String call, long answer) {
        text.append(call).append('=').append(answer).append(' ');
    }
}
