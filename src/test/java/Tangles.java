import java.util.ArrayList;
import java.util.List;
import java.util.Random;

/** Makes short methods by chance, with jumps and handlers to any of their instructions: much of it is bad. */
final class Tangles {
    private static final int[] UPPER = {255, 0, 0, 1, 255};
    private static final int KINDS = UPPER.length;
    private static final int METHODS = 3;

    private final Random random;
    private final int locals;
    private final int stack;
    /** About what is on the stack, and in the locals, along the way straight through the code. */
    private final List<Integer> have = new ArrayList<>();
    private final int[] local;
    private final List<Integer> begins = new ArrayList<>();
    /** The numbers of instructions before which one reference seems to stand, as at a handler's place. */
    private final List<Integer> like = new ArrayList<>();

    private Tangles(long seed) {
        random = new Random(seed);
        locals = chance(4);
        stack = 1 + chance(4);
        local = new int[locals];
        java.util.Arrays.fill(local, Op.UNUSABLE);
    }

    static int[] image(long seed) {
        return new Tangles(seed).make().image();
    }

    private int chance(int n) {
        return random.nextInt(n);
    }

    private Maker make() {
        Maker maker = new Maker();
        for (int c = 0; c < KINDS; c++) {
            maker.kind(UPPER[c], c == 0 ? Maker.types(Op.INT, 1, 66) : Maker.types());
        }
        Code code = new Code();
        int many = 3 + chance(12);
        for (int i = 0; i < many; i++) {
            begins.add(code.size());
            code.mark("at" + i);
            if (have.size() == 1 && have.get(0) != Op.INT) {
                like.add(i);
            }
            instruction(code, many);
        }
        maker.method(locals, stack, code);
        int handlers = chance(5);
        for (int i = 0; i < handlers; i++) {
            int place = like.isEmpty() || chance(4) == 0 ? chance(many) : like.get(chance(like.size()));
            int from = chance(3) == 0 ? chance(many) : place;
            int to = chance(2) == 0 ? from + 1 : from + 1 + chance(many - from);
            int end = to == many ? code.size() : begins.get(to);
            maker.handler(begins.get(from), end, chance(KINDS), begins.get(place));
        }
        maker.method(255, Maker.types(1, 64), 64, 2, 1, new Code().op(Op.LOAD, 1, Op.GIVE));
        return maker.method(255, Maker.types(Op.INT), 255, 1, 0, new Code().op(Op.RETURN));
    }

    private boolean on(int fromTop, int least, int most) {
        int at = have.size() - 1 - fromTop;
        return at >= 0 && have.get(at) >= least && have.get(at) <= most;
    }

    private void take(int many) {
        for (int i = 0; i < many && !have.isEmpty(); i++) {
            have.remove(have.size() - 1);
        }
    }

    private void put(int type) {
        if (have.size() < stack) {
            have.add(type);
        }
    }

    /** One that fits, most often, if what stands there came straight through the code. */
    private void instruction(Code code, int many) {
        boolean any = chance(30) == 0;
        for (int tries = 0; tries < 100; tries++) {
            int op = chance(Op.OUT + 1);
            int n = locals == 0 ? 0 : chance(locals);
            if ((any || fits(op, n)) && !((op == Op.LOAD || op == Op.STORE) && locals == 0) && op != Op.SEND) {
                write(code, op, n, many);
                return;
            }
        }
        code.op(Op.RETURN);
    }

    private boolean fits(int op, int n) {
        boolean free = have.size() < stack;
        return switch (op) {
            case Op.CONST, Op.NULL, Op.NEW, Op.IN -> free;
            case Op.LOAD -> free && locals > 0 && local[n] != Op.UNUSABLE;
            case Op.STORE, Op.POP -> !have.isEmpty();
            case Op.DUP -> free && !have.isEmpty();
            case Op.SWAP -> have.size() > 1;
            case Op.NEG, Op.IF, Op.OUT, Op.ROW -> on(0, 0, 0);
            case Op.IFNULL, Op.IFSOME, Op.IS, Op.CAST -> on(0, 1, 98);
            case Op.IFSAME, Op.IFOTHER -> on(0, 1, 98) && on(1, 1, 98);
            case Op.GET -> on(0, 1, 4);
            case Op.PUT -> on(1, 1, 4);
            case Op.LENGTH -> on(0, 64, 97);
            case Op.AT -> on(0, 0, 0) && on(1, 64, 97);
            case Op.TO -> on(1, 0, 0) && on(2, 64, 97);
            case Op.GOTO -> chance(3) == 0;
            case Op.CALL -> on(0, 0, 0) || on(0, 64, 64);
            case Op.RETURN -> chance(6) == 0;
            case Op.GIVE, Op.SEND -> false;
            case Op.THROW -> on(0, 1, KINDS) && chance(3) == 0;
            default -> on(0, 0, 0) && on(1, 0, 0);
        };
    }

    private void write(Code code, int op, int n, int many) {
        String to = "at" + chance(many);
        int c = chance(KINDS);
        switch (op) {
            case Op.CONST -> code.number(chance(9));
            case Op.LOAD, Op.STORE -> code.op(op, n);
            case Op.IF, Op.IFC -> code.jumpIf(op, chance(6), to);
            case Op.IFNULL, Op.IFSOME, Op.IFSAME, Op.IFOTHER, Op.GOTO -> code.jump(op, to);
            case Op.NEW, Op.IS, Op.CAST, Op.ROW -> code.op(op, c);
            case Op.GET, Op.PUT -> code.op(op, chance(4) == 0 ? 3 : 0, chance(3));
            case Op.CALL -> code.op(op, on(0, 0, 0) ? METHODS - 1 : 1);
            default -> code.op(op);
        }
        follow(op, n, c);
    }

    private void follow(int op, int n, int c) {
        int top = have.isEmpty() ? Op.INT : have.get(have.size() - 1);
        switch (op) {
            case Op.CONST, Op.IN -> put(Op.INT);
            case Op.NULL -> put(Op.NULL_TYPE);
            case Op.LOAD -> put(local[n]);
            case Op.DUP -> put(top);
            case Op.NEW -> put(c + 1);
            case Op.STORE -> {
                local[n] = top;
                take(1);
            }
            case Op.POP, Op.IF, Op.IFNULL, Op.IFSOME, Op.OUT -> take(1);
            case Op.SWAP -> {
                take(1);
                int lower = have.isEmpty() ? Op.INT : have.get(have.size() - 1);
                take(1);
                put(top);
                put(lower);
            }
            case Op.IFC, Op.IFSAME, Op.IFOTHER, Op.PUT -> take(2);
            case Op.TO -> take(3);
            case Op.IS, Op.LENGTH, Op.NEG, Op.GET -> {
                take(1);
                put(Op.INT);
            }
            case Op.CAST, Op.ROW -> {
                take(1);
                put(op == Op.CAST ? c + 1 : Op.ROWS + c);
            }
            case Op.AT -> {
                take(1);
                int row = have.isEmpty() ? Op.INT : have.get(have.size() - 1);
                take(1);
                put(row == Op.NULL_TYPE ? row : Math.max(0, row - Op.ROWS));
            }
            case Op.CALL, Op.GOTO, Op.RETURN, Op.GIVE, Op.THROW, Op.SEND -> {
                // What stands behind these came from elsewhere, if at all.
                have.clear();
            }
            default -> {
                take(2);
                put(Op.INT);
            }
        }
    }
}
