/** Promises 1 to 9: a new object, the input buffer, texts and their errors, counts. */
public final class InputTest {
    private static void newObject() {
        RankDesk desk = new RankDesk();
        Check.answers("1 rows", () -> desk.count(0), 1);
        Check.answers("1 columns", () -> desk.count(1), 1);
        for (int what = 2; what <= 6; what++) {
            int w = what;
            Check.answers("1 count " + what, () -> desk.count(w), 0);
        }
        Check.answers("1 entry", () -> desk.entry(0, 0), 0);
        Check.answers("1 error code", desk::errorCode, 0);
        Check.answers("1 error position", desk::errorPosition, -1);
        Check.answers("1 vector", () -> desk.vector(0), 0);
        Check.answers("1 guess", () -> desk.guess(0), -1);
        Check.answers("1 claim", () -> desk.claimed(0), -1);
        Check.answers("1 undo count", desk::undoCount, 0);
        Check.isBadState("1 nothing to undo", desk::undo);
        Check.isBadState("1 slot 0", () -> desk.restore(0));
        Check.isBadState("1 slot 1", () -> desk.restore(1));
        Check.isOutside("1 output", () -> desk.outputByte(0));
        Check.answers("1 input", () -> desk.append(0, 0, 0, 0, 0), 20);
    }

    private static void append() {
        RankDesk desk = new RankDesk();
        // "matr", "ix 1", " 1;\n", "row ", "-7; "
        int answer = desk.append(0x6D617472, 0x69782031, 0x20313B0A, 0x726F7720, 0x2D373B20);
        Check.same("2 length", answer, 20);
        Check.answers("2 order of the bytes", desk::load, 1);
        Check.answers("2 entry", () -> desk.entry(0, 0), -7);
        for (int i = 1; i <= 20; i++) {
            Check.same("2 length", desk.append(-1, 0, 0, 0, 0), 20 * i);
        }
        Check.isBadState("2 more than 400", () -> desk.append(0, 0, 0, 0, 0));
        desk.truncate(381);
        Check.isBadState("2 401 bytes", () -> desk.append(0, 0, 0, 0, 0));
        desk.truncate(380);
        Check.answers("2 400 bytes", () -> desk.append(0, 0, 0, 0, 0), 400);
    }

    private static String truncated(RankDesk desk, int length) {
        return Check.told(() -> {
            desk.truncate(length);
            return 0;
        });
    }

    private static void truncate() {
        RankDesk desk = new RankDesk();
        Check.same("3 of an empty buffer", truncated(desk, 0), 0);
        Check.same("3 behind the end", truncated(desk, 1), "throws.IllegalArgumentException");
        Desks.type(desk, "matrix 1 1;row 12;");
        Check.same("3 negative", truncated(desk, -1), "throws.IllegalArgumentException");
        Check.same("3 behind the end", truncated(desk, 19), "throws.IllegalArgumentException");
        Check.same("3 the whole", truncated(desk, 18), 0);
        Check.same("3 a part", truncated(desk, 16), 0);
        Check.answers("3 append behind it", () -> desk.append(0x3B202020, 0x20202020, 0x20202020, 0x20202020,
                0x20202020), 36);
        Check.answers("3 load", desk::load, 1);
        Check.answers("3 entry", () -> desk.entry(0, 0), 1);
        Check.same("3 emptied", truncated(desk, 1), "throws.IllegalArgumentException");
    }

    private static void right(String text, int rows, String matrix) {
        RankDesk desk = new RankDesk();
        Check.same("4 load of " + text, Desks.load(desk, text), rows);
        Check.same("5 code of " + text, desk.errorCode(), 0);
        Check.same("6 position of " + text, desk.errorPosition(), -1);
        Check.same("4 matrix of " + text, Desks.matrix(desk), matrix);
        Check.same("4 undo of " + text, desk.undoCount(), 1);
    }

    private static void rightTexts() {
        right("matrix 1 1;", 0, "0\n");
        right(" \n matrix\n2 3 ; row 1 , - 2,3;", 1, "1 -2 3\n0 0 0\n");
        right("matrix 2 2;row 20,-20;row 0,-0;", 2, "20 -20\n0 0\n");
        right("matrix6 6;", 0, "0 0 0 0 0 0\n".repeat(6));
        right("matrix 0001 02;row 007,000000000000000000000000000000000000000020;", 1, "7 20\n");
        right("matrix 1 1;prime 2;row3;prime 97;prime 3;prime 5;prime 7;prime 11;", 1, "3\n");
        right("matrix 1 1;prime 002;", 0, "0\n");
        right("matrix 1 6;row 1,2,3,4,5,6;", 1, "1 2 3 4 5 6\n");
        right("matrix 6 1;row 1;row 2;row 3;row 4;row 5;row 6;", 6, "1\n2\n3\n4\n5\n6\n");
    }

    private static void wrong(String text, int code, int position) {
        RankDesk desk = Desks.of("matrix 2 1;row 5;row 6;prime 7;");
        desk.claim(1, 1);
        Check.same("4 load of " + text, Desks.load(desk, text), -4);
        Check.same("5 code of " + text, desk.errorCode(), code);
        Check.same("6 position of " + text, desk.errorPosition(), position);
        Check.same("4 matrix stays behind " + text, Desks.matrix(desk), "5\n6\n");
        Check.same("4 prime stays behind " + text, desk.prime(0), 7);
        Check.same("4 claim stays behind " + text, desk.claimed(0), 1);
        Check.same("4 no undo of " + text, desk.undoCount(), 2);
        Check.same("4 buffer is empty behind " + text, truncated(desk, 1), "throws.IllegalArgumentException");
    }

    private static void misplacedTokens() {
        wrong("", 1, 0);
        wrong(" \n ", 1, 3);
        wrong("row 1;", 1, 0);
        wrong("prime 2;", 1, 0);
        wrong("matrixx 1 1;", 1, 0);
        wrong("Matrix 1 1;", 1, 0);
        wrong("natrix 1 1;", 1, 0);
        wrong("matrix`1 1;", 1, 6);
        wrong("matrix 1 1;pow 1;", 1, 11);
        wrong("matrix 1 1;crime 2;", 1, 11);
        wrong("matrix 1 1;rowz 1;", 1, 11);
        wrong("matrix 1 1;rowa 1;", 1, 11);
        wrong("matrix 1 1;row{1;", 1, 14);
        wrong("matrix 1 1;row/1;", 1, 14);
        wrong("matrix 1 1;row:1;", 1, 14);
        wrong("matrix", 1, 6);
        wrong("matrix 1", 1, 8);
        wrong("matrix 1 ", 1, 9);
        wrong("matrix 1 1", 1, 10);
        wrong("matrix 1,1;", 1, 8);
        wrong("matrix -1 1;", 1, 7);
        wrong("matrix 1 1 1;", 1, 11);
        wrong("matrix 1 1;;", 1, 11);
        wrong("matrix 1 1;matrix 1 1;", 1, 11);
        wrong("matrix 1 1;rows 1;", 1, 11);
        wrong("matrix 1 1;row ;", 1, 15);
        wrong("matrix 1 1;row --1;", 1, 16);
        wrong("matrix 1 1;row x;", 1, 15);
        wrong("matrix 1 1;row 1,", 1, 16);
        wrong("matrix 1 1;row 1", 1, 16);
        wrong("matrix 1 2;row 1;", 1, 16);
        wrong("matrix 1 2;row 1,;", 1, 17);
        wrong("matrix 1 2;row 1 2;", 1, 17);
        wrong("matrix 1 1;row\t1;", 1, 14);
        wrong("matrix 1 1;row\r\n1;", 1, 14);
        wrong("matrix 1 1;\u00ff", 1, 11);
        wrong("matrix 1 1;prime;", 1, 16);
        wrong("matrix 1 1;prime -2;", 1, 17);
        wrong("matrix 1 1;prime 2", 1, 18);
        wrong("matrix 1 1;prime 2,3;", 1, 18);
        wrong("matrix 1 1;primes 2;", 1, 11);
        wrong("matrix 1 1;pri me 2;", 1, 11);
    }

    private static void otherErrors() {
        wrong("matrix 0 1;", 2, 7);
        wrong("matrix 7 1;", 2, 7);
        wrong("matrix 1 0;", 2, 9);
        wrong("matrix 1 77777777777777777777777777777777;", 2, 9);
        wrong("matrix 1 1;row 21;", 2, 15);
        wrong("matrix 1 1;row - 21;", 2, 17);
        wrong("matrix 1 1;row 4294967296;", 2, 15);
        wrong("matrix 1 1;row 18446744073709551617;", 2, 15);
        wrong("matrix 1 1;prime 0;", 2, 17);
        wrong("matrix 1 1;prime 1;", 2, 17);
        wrong("matrix 1 1;prime 98;", 2, 17);
        wrong("matrix 1 1;prime 101;", 2, 17);
        wrong("matrix 1 1;prime 4;", 3, 17);
        wrong("matrix 1 1;prime 91;", 3, 17);
        wrong("matrix 1 1;prime 95;", 3, 17);
        wrong("matrix 1 1;prime 7;prime 007;", 4, 25);
        wrong("matrix 1 1;row 1;row 2;", 5, 17);
        wrong("matrix 2 1;row 1;prime 2;row 2;row", 5, 31);
        wrong("matrix 1 1;prime 2;prime 3;prime 5;prime 7;prime 11;prime 13;prime 2;", 5, 61);
        wrong("matrix 1 1;row 21,prime 4;", 2, 15);
    }

    private static void loadAnew() {
        RankDesk desk = Desks.of("matrix 2 2;row 1,2;row 2,4;prime 2;");
        desk.probe(0);
        desk.repair();
        desk.setVector(0, 3);
        desk.claim(1, 1);
        desk.addRelation();
        desk.keep(0);
        int length = desk.writeMatrix();
        Check.same("4 load", Desks.load(desk, "matrix 3 1;row 4;prime 5;prime 3;"), 1);
        Check.same("4 output stays", Desks.written(desk, length), "1 2\n2 4\n");
        Check.same("4 rows", desk.count(0), 3);
        Check.same("4 columns", desk.count(1), 1);
        Check.same("4 primes", desk.count(2), 2);
        Check.same("4 first prime", desk.prime(0), 5);
        Check.same("4 relations", desk.count(4), 0);
        Check.same("4 probes", desk.count(5), 0);
        Check.same("4 tries", desk.count(6), 0);
        Check.same("4 guess", desk.guess(0), -1);
        Check.same("4 vector", desk.vector(0), 0);
        Check.same("4 claim", desk.claimed(1), -1);
        Check.same("4 can be undone", desk.undoCount(), 6);
        Check.same("4 slot", desk.restore(0), 1);
        Check.same("4 slot", Desks.matrix(desk), "1 2\n2 4\n");
    }

    private static void errors() {
        RankDesk desk = new RankDesk();
        Desks.load(desk, "matrix 1 1;row 30;");
        Check.same("5 code", desk.errorCode(), 2);
        Check.same("6 position", desk.errorPosition(), 15);
        desk.setEntry(0, 0, 1);
        desk.undo();
        Check.same("5 undo leaves the code", desk.errorCode(), 2);
        Desks.load(desk, "matrix 1 1;");
        Check.same("5 no error any more", desk.errorCode(), 0);
        Check.same("6 no error any more", desk.errorPosition(), -1);
        desk.undo();
        Check.same("5 undo leaves the code", desk.errorCode(), 0);
    }

    private static void counts() {
        RankDesk desk = Desks.of("matrix 3 2;row 1,0;row 0,-4;prime 5;prime 3;");
        Check.answers("7 rows", () -> desk.count(0), 3);
        Check.answers("7 columns", () -> desk.count(1), 2);
        Check.answers("7 primes", () -> desk.count(2), 2);
        Check.answers("7 entries", () -> desk.count(3), 2);
        desk.certify();
        Check.answers("7 relations", () -> desk.count(4), 1);
        Check.isBadValue("7 below", () -> desk.count(-1));
        Check.isBadValue("7 above", () -> desk.count(7));
        Check.answers("8 prime", () -> desk.prime(0), 5);
        Check.answers("8 prime", () -> desk.prime(1), 3);
        Check.isOutside("8 below", () -> desk.prime(-1));
        Check.isOutside("8 above", () -> desk.prime(2));
        Check.answers("9 entry", () -> desk.entry(1, 1), -4);
        Check.answers("9 row without a statement", () -> desk.entry(2, 0), 0);
        Check.isOutside("9 row", () -> desk.entry(3, 0));
        Check.isOutside("9 row", () -> desk.entry(-1, 0));
        Check.isOutside("9 column", () -> desk.entry(0, 2));
        Check.isOutside("9 column", () -> desk.entry(0, -1));
    }

    public static void main(String[] args) {
        newObject();
        append();
        truncate();
        rightTexts();
        misplacedTokens();
        otherErrors();
        loadAnew();
        errors();
        counts();
        Check.end();
    }
}
