import java.util.Random;

/** Compares the class with the model on up to 512 calls of all kinds made by chance, many at the ends of bounds. */
public final class CallsAgainstModelTest {
    private static final int CALLS = 512;
    private static final int[] ENDS = {Integer.MIN_VALUE, -2, -1, 0, 1, 2, 3, 4, 5, 6, 7, 8, 11, 12, 13, 20, 63, 64,
        999, 1000, 1001, 1023, 1024, 1025, 8000, 19999, 20000, 20001, 60000, 60001, Integer.MAX_VALUE};
    private final Due due = new Due();
    private Random random;
    private String told;
    private SteadyMachine x;
    private Model y;
    private int calls;
    private final int[] outcomes = new int[5];

    public static void main(String[] args) {
        CallsAgainstModelTest test = new CallsAgainstModelTest();
        int objects = args.length > 0 ? Integer.parseInt(args[0]) : 400;
        int first = args.length > 1 ? Integer.parseInt(args[1]) : 0;
        for (int seed = first; seed < first + objects && test.due.allAsDue(); seed++) {
            test.object(seed);
        }
        System.out.println("at last without a run " + test.outcomes[0] + ", goes on " + test.outcomes[1]
            + ", returned " + test.outcomes[2] + ", uncaught " + test.outcomes[3] + ", no room " + test.outcomes[4]);
        test.due.finish();
    }

    private void object(int seed) {
        random = new Random(seed);
        x = new SteadyMachine();
        y = new Model();
        calls = 0;
        while (calls < CALLS && due.allAsDue()) {
            told = "seed " + seed + ", call " + calls + ": ";
            int kind = random.nextInt(40);
            if (kind == 0) {
                image(seed);
            } else if (kind < 18) {
                change(kind);
            } else {
                ask(random.nextInt(9));
            }
        }
        outcomes[x.state()]++;
    }

    private int any() {
        int one = ENDS[random.nextInt(ENDS.length)];
        return random.nextInt(3) == 0 ? random.nextInt(30) : one;
    }

    private void image(int seed) {
        boolean tangle = random.nextInt(4) == 0;
        int[] image = tangle ? Tangles.image(random.nextInt()) : Programs.image(seed + random.nextInt(3));
        if (calls + image.length / 20 + 4 > CALLS) {
            calls++;
            return;
        }
        // What is on the tape already would stand before the image.
        if (random.nextInt(8) != 0) {
            due.due(told + "end(-1)", x.end(-1), y.end(-1));
            calls++;
        }
        for (int from = 0; from < image.length; from += 20) {
            int[] n = Maker.numbers(image, from);
            due.due(told + "feed", x.feed(n[0], n[1], n[2], n[3], n[4]), y.feed(n[0], n[1], n[2], n[3], n[4]));
            calls++;
        }
        int n = image.length + (random.nextInt(10) == 0 ? random.nextInt(5) - 2 : 0);
        due.due(told + "end(" + n + ")", x.end(n), y.end(n));
        due.due(told + "start(1500, 2)", x.start(1500, 2), y.start(1500, 2));
        calls += 2;
    }

    private void change(int kind) {
        calls++;
        int a = any();
        int b = any();
        if (kind < 9) {
            int n = random.nextInt(4) == 0 ? a : random.nextInt(60);
            due.due(told + "run(" + n + ")", x.run(n), y.run(n));
        } else if (kind < 12) {
            due.due(told + "start(" + a + ", " + b + ")", x.start(a, b), y.start(a, b));
        } else if (kind < 15) {
            due.due(told + "input(" + a + ")", x.input(a), y.input(a));
        } else if (kind == 15) {
            x.clear();
            y.clear();
        } else if (kind == 16) {
            due.due(told + "feed", x.feed(a, b, a, b, a), y.feed(a, b, a, b, a));
        } else if (random.nextInt(12) == 0 || a < 0) {
            // Seldom one that takes the image away.
            due.due(told + "end(" + a + ")", x.end(a), y.end(a));
        }
    }

    private void ask(int kind) {
        calls++;
        int a = any();
        int b = any();
        int c = random.nextInt(3) == 0 ? any() : random.nextInt(4);
        String args = "(" + a + ", " + b + ", " + c + ")";
        switch (kind) {
            case 0 -> due.due(told + "state()", x.state(), y.state());
            case 1 -> due.due(told + "count" + args, x.count(c), y.count(c));
            case 2 -> due.due(told + "out" + args, x.out(a), y.out(a));
            case 3 -> due.due(told + "frame" + args, x.frame(a, c), y.frame(a, c));
            case 4 -> {
                long path = random.nextBoolean() ? 0 : (long) random.nextInt(6) << 12 * random.nextInt(6) | c;
                int f = random.nextInt(3) - 1;
                due.due(told + "value" + args + path, x.value(f, a, path, c), y.value(f, a, path, c));
            }
            case 5 -> due.due(told + "same" + args, x.same(c, b), y.same(c, b));
            case 6 -> due.due(told + "told" + args, x.told(c), y.told(c));
            case 7 -> due.due(told + "steady()", x.steady(), true);
            default -> due.due(told + "stands" + args, x.stands(c, a, b, c), y.stands(c, a, b, c));
        }
    }
}
