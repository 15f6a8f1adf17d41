import java.util.ArrayList;
import java.util.List;
import java.util.Random;

/** Makes programs by chance, from a seed, most of which the verifier takes. */
final class Programs {
    private static final int CODE_MOST = 900;

    private static final class Signature {
        int owner;
        int[] params;
        int gives;
        int slot = -1;
    }

    private final Random random;
    private final Maker maker = new Maker();
    private int kinds;
    private int[] upper;
    private final List<List<Integer>> fields = new ArrayList<>();
    private final List<Signature> methods = new ArrayList<>();
    private int[][] slots;

    private Code code;
    private int[] locals;
    private int self;
    private int names;
    private final List<Object[]> handlers = new ArrayList<>();

    Programs(long seed) {
        random = new Random(seed);
    }

    static int[] image(long seed) {
        return new Programs(seed).make().image();
    }

    private int chance(int n) {
        return random.nextInt(n);
    }

    private Maker make() {
        makeKinds();
        makeSignatures();
        for (int c = 0; c < kinds; c++) {
            List<Integer> told = new ArrayList<>();
            for (int s = 0; s < 16; s++) {
                for (int m = 0; m < methods.size(); m++) {
                    if (methods.get(m).slot == s && methods.get(m).owner == c) {
                        told.add(s);
                        told.add(m);
                    }
                }
            }
            int inherited = upper[c] == 255 ? 0 : fields.get(upper[c]).size();
            int[] own = fields.get(c).subList(inherited, fields.get(c).size()).stream().mapToInt(i -> i).toArray();
            maker.kind(upper[c], own, told.stream().mapToInt(i -> i).toArray());
        }
        maker.thrown(chance(kinds), chance(kinds), chance(kinds), chance(kinds), chance(kinds));
        for (int m = 0; m < methods.size(); m++) {
            makeMethod(m);
        }
        return maker.first(0);
    }

    private void makeKinds() {
        kinds = 1 + chance(8);
        upper = new int[kinds];
        slots = new int[kinds][16];
        for (int c = 0; c < kinds; c++) {
            upper[c] = c == 0 || chance(3) == 0 ? 255 : chance(c);
            List<Integer> all = new ArrayList<>();
            if (upper[c] != 255) {
                all.addAll(fields.get(upper[c]));
            }
            int own = chance(Math.min(6, 16 - all.size()));
            for (int i = 0; i < own; i++) {
                all.add(anyType());
            }
            fields.add(all);
        }
    }

    private int anyType() {
        int what = chance(6);
        if (what < 2) {
            return Op.INT;
        }
        return what == 2 ? Op.ROWS + chance(kinds + 1) : 1 + chance(kinds);
    }

    private void makeSignatures() {
        Signature first = new Signature();
        first.owner = 255;
        first.params = new int[0];
        first.gives = 255;
        methods.add(first);
        int free = chance(4);
        for (int i = 0; i < free; i++) {
            Signature one = new Signature();
            one.owner = chance(2) == 0 ? 255 : chance(kinds);
            one.params = someTypes(4);
            one.gives = chance(3) == 0 ? 255 : anyType();
            methods.add(one);
        }
        for (int c = 0; c < kinds; c++) {
            for (int s = 0; s < 16; s++) {
                slots[c][s] = upper[c] == 255 ? -1 : slots[upper[c]][s];
            }
            int told = chance(3);
            for (int i = 0; i < told; i++) {
                int s = chance(4);
                if (slots[c][s] >= 0 && methods.get(slots[c][s]).owner == c) {
                    continue;
                }
                Signature one = new Signature();
                boolean there = slots[c][s] >= 0;
                one.owner = c;
                one.slot = s;
                one.params = there ? methods.get(slots[c][s]).params : someTypes(3);
                one.gives = there ? methods.get(slots[c][s]).gives : chance(3) == 0 ? 255 : anyType();
                slots[c][s] = methods.size();
                methods.add(one);
            }
        }
    }

    private int[] someTypes(int below) {
        int[] some = new int[chance(below)];
        for (int i = 0; i < some.length; i++) {
            some[i] = anyType();
        }
        return some;
    }

    private void makeMethod(int m) {
        Signature one = methods.get(m);
        code = new Code();
        self = m;
        handlers.clear();
        List<Integer> all = new ArrayList<>();
        if (one.owner != 255) {
            all.add(one.owner + 1);
        }
        for (int t : one.params) {
            all.add(t);
        }
        int params = all.size();
        int extra = 2 + chance(3);
        for (int i = 0; i < extra; i++) {
            all.add(i == 0 ? Op.INT : anyType());
        }
        int size = all.size();
        locals = all.stream().mapToInt(i -> i).toArray();
        int room = 12 - size;
        for (int i = params; i < size; i++) {
            initial(locals[i]);
            code.op(Op.STORE, i);
        }
        boolean around = m == 0 && chance(6) != 0;
        code.mark("around");
        statements(2 + chance(5), room, 0);
        if (around) {
            code.jump(Op.GOTO, "around");
            catchAll();
        } else if (one.gives == 255) {
            code.op(Op.RETURN);
        } else {
            expression(one.gives, room, 0);
            code.op(Op.GIVE);
        }
        maker.method(one.owner, one.params, one.gives, size, room, code);
        for (Object[] h : handlers) {
            maker.handler((String) h[0], (String) h[1], (Integer) h[2], (String) h[3]);
        }
    }

    /** Whatever flies, the program goes on, unless it flew before its locals were there. */
    private void catchAll() {
        code.mark("end");
        code.op(Op.POP);
        code.jump(Op.GOTO, "around");
        for (int c = 0; c < kinds && handlers.size() < 8; c++) {
            if (upper[c] == 255 && chance(12) != 0) {
                handlers.add(new Object[] {"around", "end", c, "end"});
            }
        }
    }

    private void initial(int type) {
        if (type == Op.INT) {
            code.number(chance(20));
        } else if (type >= Op.ROWS) {
            code.number(length()).op(Op.ROW, type - Op.ROWS);
        } else if (chance(2) == 0) {
            code.op(Op.NEW, type - 1);
        } else {
            code.op(Op.NULL);
        }
    }

    private int length() {
        int what = chance(40);
        if (what == 0) {
            return chance(2) == 0 ? -1 - chance(5) : 3376 + chance(10);
        }
        return what < 20 ? chance(16) : what < 32 ? chance(226) : chance(3376);
    }

    private String name() {
        return "at" + names++;
    }

    private void statements(int many, int room, int depth) {
        for (int i = 0; i < many && code.size() < CODE_MOST - 300; i++) {
            statement(room, depth);
        }
    }

    private void statement(int room, int depth) {
        int local = chance(locals.length);
        switch (chance(depth > 2 ? 11 : 16)) {
            case 0, 1, 2 -> {
                expression(locals[local], room, 0);
                code.op(Op.STORE, local);
            }
            case 3, 4 -> put(room);
            case 5 -> to(room);
            case 6 -> {
                expression(Op.INT, room, 0);
                code.op(Op.OUT);
            }
            case 7 -> call(room);
            case 8 -> {
                expression(anyType(), room, 0);
                code.op(Op.POP);
            }
            case 9, 10 -> chain();
            case 11, 12 -> {
                String over = name();
                condition(room, over);
                statements(1 + chance(3), room, depth + 1);
                code.mark(over);
            }
            case 13 -> loop(room, depth);
            case 14 -> attempt(room, depth);
            default -> {
                if (chance(3) == 0) {
                    String over = name();
                    condition(room, over);
                    expression(1 + chance(kinds), room, 0);
                    code.op(Op.THROW);
                    code.mark(over);
                } else {
                    statement(room, depth + 1);
                }
            }
        }
    }

    /** A new object that leads to the one before, so that what is reached grows; or none any more. */
    private void chain() {
        int from = chance(kinds);
        for (int i = 0; i < kinds; i++) {
            int c = (from + i) % kinds;
            for (int f = 0; f < fields.get(c).size(); f++) {
                for (int local = 0; local < locals.length; local++) {
                    if (goes(locals[local], fields.get(c).get(f)) && goes(c + 1, locals[local])) {
                        if (chance(5) == 0) {
                            code.op(Op.NULL, Op.STORE, local);
                        } else {
                            code.op(Op.NEW, c, Op.DUP, Op.LOAD, local, Op.PUT, c, f, Op.STORE, local);
                        }
                        return;
                    }
                }
            }
        }
    }

    private void condition(int room, String over) {
        switch (chance(5)) {
            case 0, 1 -> {
                expression(Op.INT, room, 1);
                code.jumpIf(Op.IF, chance(6), over);
            }
            case 2 -> {
                expression(Op.INT, room, 1);
                expression(Op.INT, room - 1, 1);
                code.jumpIf(Op.IFC, chance(6), over);
            }
            case 3 -> {
                expression(1 + chance(kinds), room, 1);
                code.jump(Op.IFNULL + chance(2), over);
            }
            default -> {
                int type = 1 + chance(kinds);
                expression(type, room, 1);
                expression(type, room - 1, 1);
                code.jump(Op.IFSAME + chance(2), over);
            }
        }
    }

    private void loop(int room, int depth) {
        int counter = -1;
        for (int i = 0; i < locals.length; i++) {
            counter = locals[i] == Op.INT ? i : counter;
        }
        String back = name();
        code.number(2 + chance(30)).op(Op.STORE, counter);
        code.mark(back);
        statements(1 + chance(3), room, depth + 1);
        code.op(Op.LOAD, counter).number(1).op(Op.SUB, Op.DUP, Op.STORE, counter);
        code.jumpIf(Op.IF, Op.GT, back);
    }

    private void attempt(int room, int depth) {
        if (handlers.size() > 6) {
            return;
        }
        String from = name();
        String to = name();
        String caught = name();
        String over = name();
        code.mark(from);
        statements(1 + chance(3), room, depth + 1);
        code.op(Op.NULL, Op.POP);
        code.mark(to);
        code.jump(Op.GOTO, over);
        code.mark(caught);
        int c = chance(kinds);
        int into = -1;
        for (int i = 0; i < locals.length; i++) {
            into = locals[i] >= 1 && locals[i] < 64 && below(c, locals[i] - 1) ? i : into;
        }
        if (into >= 0) {
            code.op(Op.STORE, into);
        } else {
            code.op(Op.POP);
        }
        code.mark(over);
        handlers.add(new Object[] {from, to, c, caught});
    }

    private boolean below(int c, int above) {
        for (int at = c; at != 255; at = upper[at]) {
            if (at == above) {
                return true;
            }
        }
        return false;
    }

    private boolean goes(int type, int into) {
        boolean classes = type >= 1 && type < 64 && into >= 1 && into < 64;
        return type == into || classes && below(type - 1, into - 1);
    }

    private void put(int room) {
        int c = chance(kinds);
        if (fields.get(c).isEmpty()) {
            return;
        }
        int f = chance(fields.get(c).size());
        expression(c + 1, room, 0);
        expression(fields.get(c).get(f), room - 1, 0);
        code.op(Op.PUT, c, f);
    }

    private void to(int room) {
        int item = chance(kinds + 1);
        expression(Op.ROWS + item, room, 1);
        index(room - 1);
        expression(item, room - 2, 1);
        code.op(Op.TO);
    }

    private void index(int room) {
        if (chance(3) != 0) {
            code.number(chance(4) == 0 ? chance(3376) : chance(15));
        } else {
            expression(Op.INT, room, 2);
        }
    }

    private boolean call(int room) {
        int m = chance(10) == 0 ? chance(methods.size()) : self + 1 + chance(methods.size());
        if (m >= methods.size()) {
            return false;
        }
        callOf(m, room);
        if (methods.get(m).gives != 255) {
            code.op(Op.POP);
        }
        return true;
    }

    private void callOf(int m, int room) {
        Signature one = methods.get(m);
        int used = 0;
        if (one.owner != 255) {
            expression(one.owner + 1, room, 1);
            used++;
        }
        for (int t : one.params) {
            expression(t, room - used, 1);
            used++;
        }
        if (one.slot >= 0 && chance(5) != 0) {
            code.op(Op.SEND, one.owner, one.slot);
        } else {
            code.op(Op.CALL, m);
        }
    }

    private void expression(int type, int room, int depth) {
        boolean deep = room < 5 || depth > 3 || code.size() > CODE_MOST - 150;
        if (!deep && chance(4) == 0 && got(type, room, depth)) {
            return;
        }
        if (!deep && chance(12) == 0 && called(type, room)) {
            return;
        }
        if (chance(2) == 0) {
            int from = chance(locals.length);
            for (int i = 0; i < locals.length; i++) {
                int local = (from + i) % locals.length;
                if (goes(locals[local], type)) {
                    code.op(Op.LOAD, local);
                    return;
                }
            }
        }
        if (type == Op.INT) {
            number(room, depth, deep);
        } else if (type >= Op.ROWS) {
            code.number(length()).op(Op.ROW, type - Op.ROWS);
        } else {
            object(type, room, depth, deep);
        }
    }

    private boolean got(int type, int room, int depth) {
        int from = chance(kinds);
        for (int i = 0; i < kinds; i++) {
            int c = (from + i) % kinds;
            for (int f = 0; f < fields.get(c).size(); f++) {
                if (goes(fields.get(c).get(f), type) && chance(2) == 0) {
                    expression(c + 1, room, depth + 1);
                    code.op(Op.GET, c, f);
                    return true;
                }
            }
        }
        return false;
    }

    private boolean called(int type, int room) {
        for (int m = self + 1; m < methods.size(); m++) {
            if (methods.get(m).gives != 255 && goes(methods.get(m).gives, type) && chance(2) == 0) {
                callOf(m, room);
                return true;
            }
        }
        return false;
    }

    private void number(int room, int depth, boolean deep) {
        int what = deep ? 0 : chance(8);
        switch (what) {
            case 1, 2 -> {
                expression(Op.INT, room, depth + 1);
                expression(Op.INT, room - 1, depth + 1);
                code.op(Op.ADD + chance(11));
            }
            case 3 -> {
                expression(Op.INT, room, depth + 1);
                code.op(Op.NEG);
            }
            case 4 -> code.op(Op.IN);
            case 5 -> {
                expression(1 + chance(kinds), room, depth + 1);
                code.op(Op.IS, chance(kinds));
            }
            case 6 -> {
                expression(Op.ROWS + chance(kinds + 1), room, depth + 1);
                code.op(Op.LENGTH);
            }
            case 7 -> {
                expression(Op.ROWS, room, depth + 1);
                index(room - 1);
                code.op(Op.AT);
            }
            default -> code.number(chance(5) == 0 ? random.nextInt() : chance(17) - 1);
        }
    }

    private void object(int type, int room, int depth, boolean deep) {
        int what = deep ? chance(3) : chance(6);
        if (what == 0) {
            code.op(Op.NULL);
        } else if (what == 4) {
            expression(1 + chance(kinds), room, depth + 1);
            code.op(Op.CAST, type - 1);
        } else if (what == 5) {
            expression(Op.ROWS + type, room, depth + 1);
            index(room - 1);
            code.op(Op.AT);
        } else {
            int c = chance(kinds);
            code.op(Op.NEW, below(c, type - 1) ? c : type - 1);
        }
    }
}
