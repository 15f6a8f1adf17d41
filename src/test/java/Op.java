/** The instructions and types by their names. */
final class Op {
    static final int CONST = 0, NULL = 1, LOAD = 2, STORE = 3, POP = 4, DUP = 5, SWAP = 6, ADD = 7, SUB = 8, MUL = 9,
        DIV = 10, REM = 11, AND = 12, OR = 13, XOR = 14, SHL = 15, SHR = 16, USHR = 17, NEG = 18, IF = 19, IFC = 20,
        IFNULL = 21, IFSOME = 22, IFSAME = 23, IFOTHER = 24, GOTO = 25, NEW = 26, GET = 27, PUT = 28, IS = 29,
        CAST = 30, ROW = 31, LENGTH = 32, AT = 33, TO = 34, CALL = 35, SEND = 36, RETURN = 37, GIVE = 38, THROW = 39,
        IN = 40, OUT = 41;
    static final int EQ = 0, NE = 1, LT = 2, GE = 3, GT = 4, LE = 5;
    static final int INT = 0, ROWS = 64, NULL_TYPE = 97, ANY = 98, UNUSABLE = 99, NOTHING = 255;
    static final String OPERANDS =
        "i,,n,n,,,,,,,,,,,,,,,,qp,qp,p,p,p,p,p,c,cf,cf,c,c,t,,,,m,cs,,,,,";

    /** What the operands of an instruction are, a letter each. */
    static String operands(int op) {
        return OPERANDS.split(",", -1)[op];
    }

    static int size(int op) {
        int size = 1;
        for (char kind : operands(op).toCharArray()) {
            size += kind == 'i' ? 4 : kind == 'p' ? 2 : 1;
        }
        return size;
    }

    private Op() {
    }
}
