import java.util.ArrayDeque;
import java.util.ArrayList;
import java.util.Arrays;
import java.util.Collections;
import java.util.Deque;
import java.util.HashSet;
import java.util.IdentityHashMap;
import java.util.List;
import java.util.Set;
import java.util.TreeMap;
import java.util.TreeSet;

/**
 * What the document says, written down as plainly as can be: objects of Java as the heap, and all that is reached
 * counted at once as a cycle begins. Tests compare the class with it.
 */
final class Model {
    private static final class Wrong extends RuntimeException {
        private static final long serialVersionUID = 1L;
        final int place;

        Wrong(int place) {
            super(null, null, false, false);
            this.place = place;
        }
    }

    private static final class Kind {
        int upper;
        final List<Integer> fields = new ArrayList<>();
        final TreeMap<Integer, Integer> slots = new TreeMap<>();
        final TreeMap<Integer, Integer> told = new TreeMap<>();
    }

    private static final class Standing {
        int[] locals;
        List<Integer> stack = new ArrayList<>();

        Standing copy() {
            Standing other = new Standing();
            other.locals = locals.clone();
            other.stack.addAll(stack);
            return other;
        }
    }

    private static final class Method {
        int owner;
        final List<Integer> params = new ArrayList<>();
        int gives;
        int locals;
        int stack;
        int codePlace;
        int[] code;
        int handlerPlace;
        final List<int[]> handlers = new ArrayList<>();
        final TreeSet<Integer> begins = new TreeSet<>();
        final TreeMap<Integer, Standing> stands = new TreeMap<>();
    }

    private static final class Thing {
        int kind;
        Object[] fields;
    }

    private static final class Row {
        int item;
        Object[] items;
        final Set<Integer> big = new HashSet<>();
        final Set<Integer> small = new HashSet<>();

        /** 0 when all children on the way to an item are there, else how many items the one that is not has. */
        int lacking(int i) {
            if (items.length > 225 && !big.contains(i / 225)) {
                return 225;
            }
            return items.length > 15 && !small.contains(i / 15) ? 15 : 0;
        }
    }

    private static final class Frame {
        int method;
        int place;
        Object[] locals;
        final List<Object> stack = new ArrayList<>();
        Frame caller;
    }

    private final List<Integer> tape = new ArrayList<>();
    private List<Kind> kinds = new ArrayList<>();
    private List<Method> methods = new ArrayList<>();
    private final int[] thrown = new int[5];
    private int first;
    private boolean whole;
    private int[] image;
    private int at;

    private final List<Integer> inputs = new ArrayList<>();
    private final List<Integer> outputs = new ArrayList<>();
    private int state;
    private long steps;
    private int taken;
    private Frame top;
    private Thing flies;
    private int k;
    private long limit;
    private long reached;
    private long made;
    private int cycles;

    int feed(int a, int b, int c, int d, int e) {
        if (tape.size() + 20 > 8000) {
            return -2;
        }
        for (int v : new int[] {a, b, c, d, e}) {
            for (int shift = 24; shift >= 0; shift -= 8) {
                tape.add(v >>> shift & 255);
            }
        }
        return tape.size();
    }

    int end(int n) {
        if (n < 0 || n > tape.size()) {
            tape.clear();
            return -1;
        }
        image = tape.subList(0, n).stream().mapToInt(Integer::intValue).toArray();
        tape.clear();
        whole = false;
        state = 0;
        kinds = new ArrayList<>();
        methods = new ArrayList<>();
        at = 0;
        try {
            read();
            link();
        } catch (Wrong w) {
            return -3 - w.place;
        }
        for (Method m : methods) {
            try {
                verify(m);
            } catch (Wrong w) {
                return -10003 - m.codePlace - w.place;
            }
        }
        whole = true;
        return methods.stream().mapToInt(m -> m.begins.size()).sum();
    }

    private int any() {
        if (at >= image.length) {
            throw new Wrong(at);
        }
        return image[at++];
    }

    private int check(int b, boolean fine) {
        if (!fine) {
            throw new Wrong(at - 1);
        }
        return b;
    }

    private int upTo(int least, int most) {
        int b = any();
        return check(b, b >= least && b <= most);
    }

    private int orNone(int most) {
        int b = any();
        return check(b, b <= most || b == 255);
    }

    private int type(boolean orNothing) {
        int b = any();
        boolean row = b >= 64 && b <= 64 + kinds.size();
        return check(b, b <= kinds.size() || row || orNothing && b == 255);
    }

    private void read() {
        int many = upTo(1, 32);
        for (int c = 0; c < many; c++) {
            kinds.add(new Kind());
        }
        for (int c = 0; c < many; c++) {
            Kind kind = kinds.get(c);
            kind.upper = orNone(c - 1);
            if (kind.upper != 255) {
                kind.fields.addAll(kinds.get(kind.upper).fields);
                kind.slots.putAll(kinds.get(kind.upper).slots);
            }
            int own = upTo(0, 15 - kind.fields.size());
            for (int i = 0; i < own; i++) {
                kind.fields.add(type(false));
            }
            int told = upTo(0, 16);
            int last = -1;
            for (int i = 0; i < told; i++) {
                last = upTo(last + 1, 15);
                kind.told.put(last, at);
                kind.slots.put(last, any());
            }
        }
        for (int i = 0; i < 5; i++) {
            thrown[i] = upTo(0, many - 1);
        }
        int manyMethods = upTo(1, 64);
        for (int i = 0; i < manyMethods; i++) {
            methods.add(readMethod());
        }
        first = upTo(0, manyMethods - 1);
        check(first, methods.get(first).params.isEmpty() && methods.get(first).gives == 255);
        if (at < image.length) {
            throw new Wrong(at);
        }
    }

    private Method readMethod() {
        Method m = new Method();
        m.owner = orNone(kinds.size() - 1);
        if (m.owner != 255) {
            m.params.add(m.owner + 1);
        }
        int told = upTo(0, 7);
        for (int i = 0; i < told; i++) {
            m.params.add(type(false));
        }
        m.gives = type(true);
        m.locals = upTo(m.params.size(), 12);
        m.stack = upTo(0, 12 - m.locals);
        int high = upTo(0, 3);
        int low = any();
        int length = high * 256 + low;
        check(low, length >= 1 && length <= 1000);
        m.codePlace = at;
        while (at < m.codePlace + length) {
            int op = upTo(0, 41);
            check(op, at - 1 + Op.size(op) <= m.codePlace + length);
            m.begins.add(at - 1 - m.codePlace);
            readOperands(op, m);
        }
        m.code = Arrays.copyOfRange(image, m.codePlace, at);
        int many = upTo(0, 8);
        m.handlerPlace = at;
        for (int i = 0; i < many; i++) {
            m.handlers.add(new int[] {any() * 256 + any(), any() * 256 + any(), upTo(0, kinds.size() - 1),
                any() * 256 + any()});
        }
        return m;
    }

    private void readOperands(int op, Method m) {
        Kind kind = null;
        for (char c : Op.operands(op).toCharArray()) {
            switch (c) {
                case 'i' -> {
                    any();
                    any();
                    any();
                    any();
                }
                case 'p' -> {
                    any();
                    any();
                }
                case 'n' -> upTo(0, m.locals - 1);
                case 'q' -> upTo(0, 5);
                case 'c' -> kind = kinds.get(upTo(0, kinds.size() - 1));
                case 'f' -> upTo(0, kind.fields.size() - 1);
                case 't' -> upTo(0, kinds.size());
                case 's' -> {
                    int s = any();
                    check(s, kind.slots.containsKey(s));
                }
                default -> any();
            }
        }
    }

    private void link() {
        TreeSet<Integer> wrong = new TreeSet<>();
        for (int c = 0; c < kinds.size(); c++) {
            for (int s : kinds.get(c).told.keySet()) {
                if (!slotFits(c, s)) {
                    wrong.add(kinds.get(c).told.get(s));
                }
            }
        }
        for (Method m : methods) {
            for (int p : m.begins) {
                int op = m.code[p];
                if (op == Op.CALL && m.code[p + 1] >= methods.size()) {
                    wrong.add(m.codePlace + p + 1);
                }
                if (Op.operands(op).endsWith("p")) {
                    int q = p + Op.size(op) - 2;
                    if (!m.begins.contains(m.code[q] * 256 + m.code[q + 1])) {
                        wrong.add(m.codePlace + q);
                    }
                }
            }
            for (int i = 0; i < m.handlers.size(); i++) {
                int[] h = m.handlers.get(i);
                int p = m.handlerPlace + 7 * i;
                if (!m.begins.contains(h[0]) || h[0] >= h[1]) {
                    wrong.add(p);
                }
                if (!m.begins.contains(h[1]) && h[1] != m.code.length) {
                    wrong.add(p + 2);
                }
                if (!m.begins.contains(h[3])) {
                    wrong.add(p + 5);
                }
            }
        }
        if (!wrong.isEmpty()) {
            throw new Wrong(wrong.first());
        }
    }

    private boolean slotFits(int c, int s) {
        int number = kinds.get(c).slots.get(s);
        if (number >= methods.size() || methods.get(number).owner != c) {
            return false;
        }
        int upper = kinds.get(c).upper;
        if (upper == 255 || !kinds.get(upper).slots.containsKey(s)) {
            return true;
        }
        int there = kinds.get(upper).slots.get(s);
        if (there >= methods.size()) {
            return true;
        }
        Method a = methods.get(number);
        Method b = methods.get(there);
        boolean params = a.params.size() == b.params.size();
        for (int i = 1; params && i < a.params.size(); i++) {
            params = a.params.get(i).equals(b.params.get(i));
        }
        return params && a.gives == b.gives;
    }

    private List<Integer> withAbove(int c) {
        List<Integer> all = new ArrayList<>();
        for (int at = c; at != 255; at = kinds.get(at).upper) {
            all.add(at);
        }
        return all;
    }

    private boolean isClass(int t) {
        return t >= 1 && t <= kinds.size();
    }

    private boolean goesInto(int t, int other) {
        if (t == other) {
            return true;
        }
        if (t == Op.NULL_TYPE) {
            return isClass(other) || other >= 64 && other <= 96;
        }
        return isClass(t) && isClass(other) && withAbove(t - 1).contains(other - 1);
    }

    private int meet(int a, int b) {
        if (a == b) {
            return a;
        }
        if (a == Op.INT || b == Op.INT || a == Op.UNUSABLE || b == Op.UNUSABLE) {
            return Op.UNUSABLE;
        }
        if (a == Op.NULL_TYPE || b == Op.NULL_TYPE) {
            return a == Op.NULL_TYPE ? b : a;
        }
        if (isClass(a) && isClass(b)) {
            List<Integer> both = withAbove(a - 1);
            both.retainAll(withAbove(b - 1));
            return both.isEmpty() ? Op.ANY : both.get(0) + 1;
        }
        return Op.ANY;
    }

    private void verify(Method m) {
        TreeSet<Integer> marked = new TreeSet<>();
        Standing before = new Standing();
        before.locals = new int[m.locals];
        Arrays.fill(before.locals, Op.UNUSABLE);
        for (int i = 0; i < m.params.size(); i++) {
            before.locals[i] = m.params.get(i);
        }
        come(m, 0, before, marked);
        while (!marked.isEmpty()) {
            int p = marked.pollFirst();
            for (int[] h : m.handlers) {
                if (h[0] <= p && p < h[1]) {
                    if (m.stack == 0) {
                        throw new Wrong(p);
                    }
                    Standing caught = m.stands.get(p).copy();
                    caught.stack.clear();
                    caught.stack.add(h[2] + 1);
                    come(m, h[3], caught, marked);
                }
            }
            Standing now = m.stands.get(p).copy();
            int op = m.code[p];
            if (!apply(m, p, now) || now.stack.size() > m.stack) {
                throw new Wrong(p);
            }
            if (op != Op.GOTO && op != Op.RETURN && op != Op.GIVE && op != Op.THROW) {
                if (p + Op.size(op) >= m.code.length) {
                    throw new Wrong(p);
                }
                come(m, p + Op.size(op), now, marked);
            }
            if (Op.operands(op).endsWith("p")) {
                int q = p + Op.size(op) - 2;
                come(m, m.code[q] * 256 + m.code[q + 1], now, marked);
            }
        }
    }

    private void come(Method m, int p, Standing with, Set<Integer> marked) {
        Standing had = m.stands.get(p);
        if (had == null) {
            m.stands.put(p, with.copy());
            marked.add(p);
            return;
        }
        if (had.stack.size() != with.stack.size()) {
            throw new Wrong(p);
        }
        boolean changes = false;
        for (int i = 0; i < had.locals.length; i++) {
            int t = meet(had.locals[i], with.locals[i]);
            changes |= t != had.locals[i];
            had.locals[i] = t;
        }
        for (int i = 0; i < had.stack.size(); i++) {
            int t = meet(had.stack.get(i), with.stack.get(i));
            if (t == Op.UNUSABLE) {
                throw new Wrong(p);
            }
            changes |= t != had.stack.get(i);
            had.stack.set(i, t);
        }
        if (changes) {
            marked.add(p);
        }
    }

    private static boolean reference(int t) {
        return t != Op.INT && t != Op.UNUSABLE;
    }

    private static boolean rowOrNull(int t) {
        return t >= 64 && t <= 97;
    }

    /** Whether an instruction fits; now becomes what stands behind it. */
    private boolean apply(Method m, int p, Standing now) {
        int op = m.code[p];
        int a = Op.size(op) > 1 ? m.code[p + 1] : 0;
        int b = Op.size(op) > 2 ? m.code[p + 2] : 0;
        int needs = switch (op) {
            case Op.CONST, Op.NULL, Op.LOAD, Op.GOTO, Op.NEW, Op.RETURN, Op.IN -> 0;
            case Op.SWAP, Op.IFC, Op.IFSAME, Op.IFOTHER, Op.PUT, Op.AT -> 2;
            case Op.TO -> 3;
            case Op.CALL -> methods.get(a).params.size();
            case Op.SEND -> methods.get(kinds.get(a).slots.get(b)).params.size();
            default -> op >= Op.ADD && op <= Op.USHR ? 2 : 1;
        };
        if (now.stack.size() < needs) {
            return false;
        }
        int rest = now.stack.size() - needs;
        List<Integer> has = new ArrayList<>(now.stack.subList(rest, rest + needs));
        now.stack.subList(rest, rest + needs).clear();
        List<Integer> puts = now.stack;
        if (op >= Op.ADD && op <= Op.USHR) {
            puts.add(Op.INT);
            return has.get(0) == Op.INT && has.get(1) == Op.INT;
        }
        switch (op) {
            case Op.CONST, Op.IN:
                puts.add(Op.INT);
                return true;
            case Op.NULL:
                puts.add(Op.NULL_TYPE);
                return true;
            case Op.LOAD:
                puts.add(now.locals[a]);
                return now.locals[a] != Op.UNUSABLE;
            case Op.STORE:
                now.locals[a] = has.get(0);
                return true;
            case Op.POP, Op.GOTO:
                return true;
            case Op.DUP:
                puts.add(has.get(0));
                puts.add(has.get(0));
                return true;
            case Op.SWAP:
                puts.add(has.get(1));
                puts.add(has.get(0));
                return true;
            case Op.NEG:
                puts.add(Op.INT);
                return has.get(0) == Op.INT;
            case Op.IF, Op.OUT:
                return has.get(0) == Op.INT;
            case Op.IFC:
                return has.get(0) == Op.INT && has.get(1) == Op.INT;
            case Op.IFNULL, Op.IFSOME:
                return reference(has.get(0));
            case Op.IFSAME, Op.IFOTHER:
                return reference(has.get(0)) && reference(has.get(1));
            case Op.NEW:
                puts.add(a + 1);
                return true;
            case Op.GET:
                puts.add(kinds.get(a).fields.get(b));
                return goesInto(has.get(0), a + 1);
            case Op.PUT:
                return goesInto(has.get(0), a + 1) && goesInto(has.get(1), kinds.get(a).fields.get(b));
            case Op.IS:
                puts.add(Op.INT);
                return reference(has.get(0));
            case Op.CAST:
                puts.add(a + 1);
                return reference(has.get(0));
            case Op.ROW:
                puts.add(64 + a);
                return has.get(0) == Op.INT;
            case Op.LENGTH:
                puts.add(Op.INT);
                return rowOrNull(has.get(0));
            case Op.AT:
                puts.add(has.get(0) == Op.NULL_TYPE ? Op.NULL_TYPE : has.get(0) - 64);
                return rowOrNull(has.get(0)) && has.get(1) == Op.INT;
            case Op.TO:
                return rowOrNull(has.get(0)) && has.get(1) == Op.INT
                    && (has.get(0) == Op.NULL_TYPE || goesInto(has.get(2), has.get(0) - 64));
            case Op.CALL, Op.SEND: {
                Method called = methods.get(op == Op.CALL ? a : kinds.get(a).slots.get(b));
                boolean fits = true;
                for (int i = 0; i < needs; i++) {
                    int want = op == Op.SEND && i == 0 ? a + 1 : called.params.get(i);
                    fits &= goesInto(has.get(i), want);
                }
                if (called.gives != 255) {
                    puts.add(called.gives);
                }
                return fits;
            }
            case Op.RETURN:
                return m.gives == 255;
            case Op.GIVE:
                return m.gives != 255 && goesInto(has.get(0), m.gives);
            default:
                return isClass(has.get(0)) || has.get(0) == Op.NULL_TYPE;
        }
    }

    int input(int v) {
        if (inputs.size() >= 1000) {
            return -2;
        }
        inputs.add(v);
        return inputs.size();
    }

    void clear() {
        inputs.clear();
    }

    boolean start(int h, int perMade) {
        if (!whole) {
            return false;
        }
        long cells = Math.min(60000, Math.max(1024, h));
        k = Math.min(64, Math.max(1, perMade));
        limit = cells * k / (k + 1);
        reached = 0;
        made = 0;
        cycles = 0;
        state = 1;
        steps = 0;
        taken = 0;
        outputs.clear();
        flies = null;
        top = null;
        enter(first, new Object[0]);
        return true;
    }

    int run(int n) {
        if (n < 0 || n > 20000 || state != 1) {
            return -1;
        }
        int done = 0;
        while (done < n && state == 1 && step()) {
            done++;
            steps++;
        }
        return done;
    }

    private boolean done() {
        return k * made >= reached;
    }

    /** False, and the run is over, when there is no room. */
    private boolean make(int n) {
        if (done() && reached > limit) {
            state = 4;
            return false;
        }
        if (done() && reached + made + n > limit) {
            reached = reachedNow();
            made = 0;
            cycles++;
        }
        made += n;
        return true;
    }

    private long reachedNow() {
        Set<Object> seen = Collections.newSetFromMap(new IdentityHashMap<>());
        Deque<Object> open = new ArrayDeque<>();
        long cells = 0;
        open.add(top);
        if (flies != null) {
            open.add(flies);
        }
        while (!open.isEmpty()) {
            Object one = open.poll();
            if (!seen.add(one)) {
                continue;
            }
            List<Object> leads = new ArrayList<>();
            if (one instanceof Frame f) {
                cells += 16;
                leads.add(f.caller);
                leads.addAll(Arrays.asList(f.locals));
                leads.addAll(f.stack);
            } else if (one instanceof Thing t) {
                cells += 1 + t.fields.length;
                leads.addAll(Arrays.asList(t.fields));
            } else if (one instanceof Row r) {
                cells += 16 * (1 + r.big.size() + r.small.size());
                leads.addAll(Arrays.asList(r.items));
            }
            for (Object o : leads) {
                if (o != null && !(o instanceof Integer)) {
                    open.add(o);
                }
            }
        }
        return cells;
    }

    private boolean enter(int number, Object[] params) {
        if (!make(16)) {
            return false;
        }
        Frame f = new Frame();
        f.method = number;
        f.locals = new Object[methods.get(number).locals];
        Arrays.fill(f.locals, 0);
        System.arraycopy(params, 0, f.locals, 0, params.length);
        f.caller = top;
        top = f;
        return true;
    }

    private Thing newThing(int c) {
        List<Integer> types = kinds.get(c).fields;
        if (!make(1 + types.size())) {
            return null;
        }
        Thing t = new Thing();
        t.kind = c;
        t.fields = new Object[types.size()];
        for (int i = 0; i < t.fields.length; i++) {
            t.fields[i] = types.get(i) == 0 ? Integer.valueOf(0) : null;
        }
        return t;
    }

    private boolean fault(int number) {
        Thing t = newThing(thrown[number]);
        if (t == null) {
            return false;
        }
        flies = t;
        return true;
    }

    private boolean step() {
        if (flies != null) {
            for (int[] h : methods.get(top.method).handlers) {
                if (h[0] <= top.place && top.place < h[1] && withAbove(flies.kind).contains(h[2])) {
                    top.stack.clear();
                    top.stack.add(flies);
                    top.place = h[3];
                    flies = null;
                    return true;
                }
            }
            top = top.caller;
            if (top == null) {
                state = 3;
            }
            return true;
        }
        return instruct(methods.get(top.method).code, top.place, top.stack);
    }

    private Object fromTop(int depth) {
        return top.stack.get(top.stack.size() - 1 - depth);
    }

    private Object pop() {
        return top.stack.remove(top.stack.size() - 1);
    }

    private boolean isA(Object o, int c) {
        return o instanceof Thing t && withAbove(t.kind).contains(c);
    }

    private boolean instruct(int[] code, int p, List<Object> stack) {
        int op = code[p];
        int a = Op.size(op) > 1 ? code[p + 1] : 0;
        int b = Op.size(op) > 2 ? code[p + 2] : 0;
        int next = p + Op.size(op);
        Frame now = top;
        if (op >= Op.ADD && op <= Op.USHR) {
            int right = (Integer) fromTop(0);
            int left = (Integer) fromTop(1);
            if ((op == Op.DIV || op == Op.REM) && right == 0) {
                return fault(2);
            }
            pop();
            pop();
            stack.add(reckon(op, left, right));
            now.place = next;
            return true;
        }
        switch (op) {
            case Op.CONST -> stack.add(code[p + 1] << 24 | code[p + 2] << 16 | code[p + 3] << 8 | code[p + 4]);
            case Op.NULL -> stack.add(null);
            case Op.LOAD -> stack.add(now.locals[a]);
            case Op.STORE -> now.locals[a] = pop();
            case Op.POP -> pop();
            case Op.DUP -> stack.add(fromTop(0));
            case Op.SWAP -> stack.add(stack.size() - 2, pop());
            case Op.NEG -> stack.add(-(Integer) pop());
            case Op.IF, Op.IFC, Op.IFNULL, Op.IFSOME, Op.IFSAME, Op.IFOTHER, Op.GOTO -> {
                if (jumps(op, a)) {
                    next = code[next - 2] * 256 + code[next - 1];
                }
            }
            case Op.NEW -> {
                Thing t = newThing(a);
                if (t == null) {
                    return false;
                }
                stack.add(t);
            }
            case Op.GET -> {
                if (fromTop(0) == null) {
                    return fault(0);
                }
                stack.add(((Thing) pop()).fields[b]);
            }
            case Op.PUT -> {
                if (fromTop(1) == null) {
                    return fault(0);
                }
                Object v = pop();
                ((Thing) pop()).fields[b] = v;
            }
            case Op.IS -> stack.add(isA(pop(), a) ? 1 : 0);
            case Op.CAST -> {
                if (fromTop(0) != null && !isA(fromTop(0), a)) {
                    return fault(3);
                }
            }
            case Op.ROW -> {
                int length = (Integer) fromTop(0);
                if (length < 0 || length > 3375) {
                    return fault(4);
                }
                if (!make(16)) {
                    return false;
                }
                Row r = new Row();
                r.item = a;
                r.items = new Object[length];
                Arrays.fill(r.items, a == 0 ? Integer.valueOf(0) : null);
                pop();
                stack.add(r);
            }
            case Op.LENGTH -> {
                if (fromTop(0) == null) {
                    return fault(0);
                }
                stack.add(((Row) pop()).items.length);
            }
            case Op.AT -> {
                Row r = (Row) fromTop(1);
                if (r == null) {
                    return fault(0);
                }
                int i = (Integer) fromTop(0);
                if (i < 0 || i >= r.items.length) {
                    return fault(1);
                }
                pop();
                pop();
                stack.add(r.items[i]);
            }
            case Op.TO -> {
                Row r = (Row) fromTop(2);
                if (r == null) {
                    return fault(0);
                }
                int i = (Integer) fromTop(1);
                if (i < 0 || i >= r.items.length) {
                    return fault(1);
                }
                int lacks = r.lacking(i);
                if (lacks != 0) {
                    if (!make(16)) {
                        return false;
                    }
                    (lacks == 225 ? r.big : r.small).add(i / lacks);
                    return true;
                }
                r.items[i] = pop();
                pop();
                pop();
            }
            case Op.CALL, Op.SEND -> {
                int number = op == Op.CALL ? a : kinds.get(a).slots.get(b);
                int needs = methods.get(number).params.size();
                if (op == Op.SEND) {
                    if (fromTop(needs - 1) == null) {
                        return fault(0);
                    }
                    number = kinds.get(((Thing) fromTop(needs - 1)).kind).slots.get(b);
                }
                List<Object> taken = stack.subList(stack.size() - needs, stack.size());
                Object[] params = taken.toArray();
                if (!enter(number, params)) {
                    return false;
                }
                taken.clear();
                return true;
            }
            case Op.RETURN, Op.GIVE -> {
                Object v = op == Op.GIVE ? pop() : null;
                top = now.caller;
                if (top == null) {
                    state = 2;
                    return true;
                }
                if (op == Op.GIVE) {
                    top.stack.add(v);
                }
                top.place += Op.size(methods.get(top.method).code[top.place]);
                return true;
            }
            case Op.THROW -> {
                if (fromTop(0) == null) {
                    return fault(0);
                }
                flies = (Thing) fromTop(0);
                return true;
            }
            case Op.IN -> stack.add(taken < inputs.size() ? inputs.get(taken++) : 0);
            default -> outputs.add((Integer) pop());
        }
        now.place = next;
        return true;
    }

    private static int reckon(int op, int left, int right) {
        return switch (op) {
            case Op.ADD -> left + right;
            case Op.SUB -> left - right;
            case Op.MUL -> left * right;
            case Op.DIV -> (int) ((long) left / right);
            case Op.REM -> (int) ((long) left % right);
            case Op.AND -> left & right;
            case Op.OR -> left | right;
            case Op.XOR -> left ^ right;
            case Op.SHL -> left << (right & 31);
            case Op.SHR -> left >> (right & 31);
            default -> left >>> (right & 31);
        };
    }

    private boolean jumps(int op, int question) {
        switch (op) {
            case Op.GOTO:
                return true;
            case Op.IFNULL:
                return pop() == null;
            case Op.IFSOME:
                return pop() != null;
            case Op.IFSAME:
                return pop() == pop();
            case Op.IFOTHER:
                return pop() != pop();
            default:
                int right = op == Op.IFC ? (Integer) pop() : 0;
                int order = Integer.compare((Integer) pop(), right);
                return switch (question) {
                    case Op.EQ -> order == 0;
                    case Op.NE -> order != 0;
                    case Op.LT -> order < 0;
                    case Op.GE -> order >= 0;
                    case Op.GT -> order > 0;
                    default -> order <= 0;
                };
        }
    }

    int state() {
        return state;
    }

    long count(int what) {
        if (what < 0 || what > 6) {
            return -1;
        }
        if (what >= 5) {
            return !whole ? 0 : what == 5 ? kinds.size() : methods.size();
        }
        if (state == 0) {
            return 0;
        }
        int frames = 0;
        for (Frame f = top; f != null; f = f.caller) {
            frames++;
        }
        return new long[] {steps, taken, outputs.size(), frames, flies == null ? 0 : 1}[what];
    }

    int out(int i) {
        return state != 0 && i >= 0 && i < 1000 && i < outputs.size() ? outputs.get(i) : 0;
    }

    private Frame frameAt(int f) {
        Frame at = state == 0 || f < 0 ? null : top;
        for (int i = 0; i < f && at != null; i++) {
            at = at.caller;
        }
        return at;
    }

    int frame(int f, int what) {
        Frame at = frameAt(f);
        if (at == null || what < 0 || what > 3) {
            return -1;
        }
        return new int[] {at.method, at.place, at.stack.size(), at.locals.length}[what];
    }

    /** A value in a list of its own, or an empty list when there is none. */
    private List<Object> value(int f, int k) {
        if (f == -1) {
            return state != 0 && flies != null && k == 0 ? Collections.singletonList(flies) : List.of();
        }
        Frame at = frameAt(f);
        if (at == null || k < 0 || k >= at.locals.length + at.stack.size()) {
            return List.of();
        }
        Object v = k < at.locals.length ? at.locals[k] : at.stack.get(k - at.locals.length);
        return Collections.singletonList(v);
    }

    long value(int f, int k, long path, int what) {
        List<Object> one = value(f, k);
        if (one.isEmpty() || what < 0 || what > 2) {
            return -1;
        }
        Object v = one.get(0);
        for (int i = 0; i < 6; i++) {
            int part = (int) (path >>> 12 * i & 4095);
            if (part == 0) {
                break;
            }
            Object[] parts = v instanceof Thing t ? t.fields : v instanceof Row r ? r.items : new Object[0];
            if (part > parts.length) {
                return -1;
            }
            v = parts[part - 1];
        }
        if (v instanceof Integer n) {
            return what == 1 ? n : 0;
        }
        if (v instanceof Thing t) {
            return new int[] {2, t.kind, t.fields.length}[what];
        }
        if (v instanceof Row r) {
            return new int[] {r.item == 0 ? 3 : 4, r.items.length, 0}[what];
        }
        return what == 0 ? 1 : 0;
    }

    boolean same(int k, int other) {
        List<Object> a = value(0, k);
        List<Object> b = value(0, other);
        boolean both = !a.isEmpty() && !b.isEmpty();
        return both && a.get(0) == b.get(0) && !(a.get(0) instanceof Integer);
    }

    int told(int what) {
        if (state == 0 || what < 0 || what > 4) {
            return -1;
        }
        return (int) new long[] {cycles, done() ? 1 : 0, done() ? reached : -1, made, limit}[what];
    }

    int stands(int m, int place, int what, int k) {
        if (!whole || m < 0 || m >= methods.size() || !methods.get(m).stands.containsKey(place)) {
            return -1;
        }
        Standing s = methods.get(m).stands.get(place);
        if (what == 0) {
            return s.stack.size();
        }
        if (what == 1 && k >= 0 && k < s.locals.length) {
            return s.locals[k];
        }
        return what == 2 && k >= 0 && k < s.stack.size() ? s.stack.get(k) : -1;
    }
}
