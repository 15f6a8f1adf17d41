import java.util.Random;

/** Compares the class with the model on programs made by chance, from seeds that stay the same. */
public final class AgainstModelTest {
    private final Due due = new Due();
    private Random random;
    private String told;
    private SteadyMachine x;
    private Model y;
    private final int[] outcomes = new int[5];
    private int taken;
    private int tangled;
    private int longest;

    public static void main(String[] args) {
        AgainstModelTest test = new AgainstModelTest();
        int programs = args.length > 0 ? Integer.parseInt(args[0]) : 100;
        int first = args.length > 1 ? Integer.parseInt(args[1]) : 0;
        for (int seed = first; seed < first + programs && test.due.allAsDue(); seed++) {
            test.program(seed);
            test.spoilt(seed);
            test.tangles(seed);
        }
        System.out.println(test.taken + " images and " + test.tangled + " tangles taken; runs that go on "
            + test.outcomes[1] + ", returned " + test.outcomes[2]
            + ", uncaught " + test.outcomes[3] + ", no room " + test.outcomes[4] + "; at most "
            + test.longest + " cycles");
        test.due.finish();
    }

    private void program(int seed) {
        random = new Random(seed);
        told = "seed " + seed + ": ";
        int[] image = Programs.image(seed);
        x = new SteadyMachine();
        y = new Model();
        if (load(image) && due.allAsDue()) {
            taken++;
            standing(image);
            runs(3);
        }
    }

    /** The same image with some other bytes. */
    private void spoilt(int seed) {
        int[] image = Programs.image(seed);
        for (int i = 0; i < 40 && due.allAsDue(); i++) {
            told = "seed " + seed + ", spoilt " + i + ": ";
            int[] other = image.clone();
            int many = 1 + random.nextInt(3);
            for (int j = 0; j < many; j++) {
                int b = random.nextInt(4) == 0 ? random.nextInt(256) : random.nextInt(45);
                other[random.nextInt(other.length)] = b;
            }
            if (random.nextInt(10) == 0) {
                other = java.util.Arrays.copyOf(other, random.nextInt(other.length + 3));
            }
            if (load(other)) {
                taken++;
                standing(other);
                runs(1);
            }
        }
    }

    /** Short code with jumps and handlers to anywhere, so that it hangs on the order what is bad first. */
    private void tangles(int seed) {
        for (int i = 0; i < 100 && due.allAsDue(); i++) {
            told = "seed " + seed + ", tangle " + i + ": ";
            int[] image = Tangles.image(seed * 100L + i);
            x = new SteadyMachine();
            y = new Model();
            if (load(image)) {
                tangled++;
                standing(image);
                runs(1);
            }
        }
    }

    private boolean load(int[] image) {
        for (int from = 0; from < image.length; from += 20) {
            int[] n = Maker.numbers(image, from);
            due.due(told + "feed", x.feed(n[0], n[1], n[2], n[3], n[4]), y.feed(n[0], n[1], n[2], n[3], n[4]));
        }
        int answer = x.end(image.length);
        due.due(told + "end", answer, y.end(image.length));
        return answer >= 0;
    }

    private void standing(int[] image) {
        for (int m = -1; m <= y.count(6); m++) {
            for (int place = -1; place < 300; place++) {
                for (int what = 0; what < 3; what++) {
                    for (int k = 0; k < (what == 0 ? 1 : 6); k++) {
                        String call = told + "stands(" + m + ", " + place + ", " + what + ", " + k + ")";
                        due.due(call, x.stands(m, place, what, k), y.stands(m, place, what, k));
                    }
                }
            }
        }
    }

    private void runs(int many) {
        for (int i = 0; i < many && due.allAsDue(); i++) {
            int h = random.nextInt(4) == 0 ? random.nextInt(70000) : random.nextInt(4000);
            int k = random.nextInt(3) == 0 ? random.nextInt(70) : random.nextInt(4);
            inputs();
            due.due(told + "start", x.start(h, k), y.start(h, k));
            int parts = 1 + random.nextInt(25);
            for (int j = 0; j < parts && due.allAsDue(); j++) {
                int n = random.nextInt(3) == 0 ? random.nextInt(8) : random.nextInt(700);
                if (random.nextInt(8) == 0) {
                    n = random.nextInt(20001);
                }
                due.due(told + "run(" + n + ")", x.run(n), y.run(n));
                compare();
            }
            outcomes[x.state()]++;
            longest = Math.max(longest, x.told(0));
        }
    }

    private void inputs() {
        if (random.nextInt(3) == 0) {
            x.clear();
            y.clear();
        }
        int many = random.nextInt(10);
        for (int i = 0; i < many; i++) {
            int v = random.nextInt(40) - 10;
            due.due(told + "input", x.input(v), y.input(v));
        }
    }

    private void compare() {
        due.due(told + "state()", x.state(), y.state());
        due.due(told + "steady()", x.steady(), true);
        for (int what = -1; what < 8; what++) {
            due.due(told + "count(" + what + ")", x.count(what), y.count(what));
            due.due(told + "told(" + what + ")", x.told(what), y.told(what));
        }
        for (int i = 0; i < 5; i++) {
            int j = random.nextInt(1100) - 20;
            due.due(told + "out(" + j + ")", x.out(j), y.out(j));
        }
        int frames = (int) y.count(3);
        for (int i = -2; i < 7; i++) {
            int f = i < 4 || frames == 0 ? i : random.nextInt(frames + 1);
            for (int what = -1; what < 5; what++) {
                due.due(told + "frame(" + f + ", " + what + ")", x.frame(f, what), y.frame(f, what));
            }
            for (int k = -1; k < 13; k++) {
                values(f, k);
            }
        }
        for (int k = -1; k < 13; k++) {
            for (int other = -1; other < 13; other++) {
                due.due(told + "same(" + k + ", " + other + ")", x.same(k, other), y.same(k, other));
            }
        }
    }

    private void values(int f, int k) {
        long path = 0;
        for (int i = 0; i < 6; i++) {
            for (int what = 0; what < 3; what++) {
                String call = told + "value(" + f + ", " + k + ", " + path + ", " + what + ")";
                due.due(call, x.value(f, k, path, what), y.value(f, k, path, what));
            }
            long length = Math.max(y.value(f, k, path, 1), y.value(f, k, path, 2));
            int most = (int) Math.max(1, Math.min(4095, length + 2));
            long part = random.nextInt(4) == 0 ? random.nextInt(4096) : random.nextInt(most);
            path |= part << 12 * i;
        }
    }
}
