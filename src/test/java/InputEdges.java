/** The edges of the section INPUT and of the promises 1 to 9. */
final class InputEdges {
    private static final String ONE = "matrix 1 1;";

    private InputEdges() {
    }

    /** The text is loaded: so many row statements, and this matrix. */
    private static void right(String text, int rows, String matrix) {
        RankDesk desk = new RankDesk();
        Edge.same(Desks.load(desk, text), rows);
        Edge.same(View.ERROR.of(desk), "0 at -1");
        Edge.same(Desks.matrix(desk), matrix);
    }

    private static RankDesk typed(String text) {
        RankDesk desk = Edge.full();
        Desks.type(desk, text);
        return desk;
    }

    /** The text is refused by this error; nothing else changes, and the buffer is empty. */
    private static void wrong(String text, int code, int position) {
        Edge.leaves(() -> typed(text), RankDesk::load, "-4", View.ERROR, View.INPUT);
        RankDesk desk = typed(text);
        desk.load();
        Edge.same(View.ERROR.of(desk), code + " at " + position);
        Edge.same(Check.told(() -> desk.append(0, 0, 0, 0, 0)), 20);
    }

    private static String padded(String text, int length) {
        return text + " ".repeat(length - text.length());
    }

    private static void newObject() {
        Edge.says("The constants:", "- `NONE = -1`: No such value.");
        Edge.same(RankDesk.NONE, -1);
        Edge.says("The constants:", "- `PARSE_ERROR = -4`: The text has a parse error.");
        Edge.same(RankDesk.PARSE_ERROR, -4);
        Edge.says("1", "with empty buffers and slots");
        Edge.same(View.INPUT.of(new RankDesk()).startsWith("0 bytes, load() -4, 1 at 0\n"), true);
        Edge.same(View.OUTPUT.of(new RankDesk()), Edge.OUTSIDE);
        Edge.same(View.SLOTS.of(new RankDesk()), Edge.BAD_STATE + "\n" + Edge.BAD_STATE + "\n");
        Edge.says("EXCEPTIONS", "Before the first successful load() the matrix has one row and one column with 0, and "
                + "there are no primes.");
        RankDesk desk = new RankDesk();
        bare(desk);
        Desks.load(desk, "matrix 2 2;row 1,2;prime 3;row 3,4");
        bare(desk);
        Edge.same(desk.undoCount(), 0);
    }

    private static void bare(RankDesk desk) {
        Edge.same(desk.count(0), 1);
        Edge.same(desk.count(1), 1);
        Edge.same(desk.entry(0, 0), 0);
        Edge.same(desk.count(2), 0);
        Edge.same(Check.told(() -> desk.prime(0)), Edge.OUTSIDE);
        Edge.same(Check.told(() -> desk.entry(1, 0)), Edge.OUTSIDE);
        Edge.same(Check.told(() -> desk.entry(0, 1)), Edge.OUTSIDE);
    }

    private static RankDesk buffered(int length) {
        RankDesk desk = new RankDesk();
        for (int i = 0; i < 20; i++) {
            desk.append(0x20202020, 0x20202020, 0x20202020, 0x20202020, 0x20202020);
        }
        desk.truncate(length);
        return desk;
    }

    private static void buffer() {
        Edge.says("INPUT", "The input buffer holds at most 400 bytes.");
        right(padded(ONE, 400), 0, "0\n");
        right(padded(ONE, 394) + "row 5;", 1, "5\n");
        wrong(padded(ONE, 399) + "x", 1, 399);
        Edge.says("2", "Throws `IllegalStateException` if the buffer would hold more than 400 bytes");
        Edge.answers(() -> buffered(380), desk -> desk.append(0, 0, 0, 0, 0), 400);
        Edge.answers(() -> buffered(379), desk -> desk.append(0, 0, 0, 0, 0), 399);
        for (int length : new int[] {381, 382, 399, 400}) {
            Edge.refuses(() -> buffered(length), desk -> desk.append(0, 0, 0, 0, 0), Edge.BAD_STATE);
            Edge.refuses(() -> typed(padded("matrix 1 2;row 8,9;", length)), desk -> desk.append(-1, -1, -1, -1, -1),
                    Edge.BAD_STATE);
        }
        Edge.says("2", "Appends 20 bytes to the input buffer: the four bytes of each parameter, most significant byte "
                + "first.");
        bytesInTheirOrder();
        Edge.says("2", "Returns the new length of the buffer.");
        RankDesk desk = new RankDesk();
        for (int length = 20; length <= 400; length += 20) {
            Edge.same(desk.append(-1, 1, Integer.MIN_VALUE, Integer.MAX_VALUE, 0), length);
        }
        Edge.leaves(Edge::full, full -> full.append(0, 0, 0, 0, 0), "45", View.INPUT);
    }

    private static void bytesInTheirOrder() {
        RankDesk desk = new RankDesk();
        // "matr", "ix 1", " 6;r", "ow 1", ",2,3" and ",4,5", ",6;p", "rime", " 97;", "    "
        desk.append(0x6D617472, 0x69782031, 0x20363B72, 0x6F772031, 0x2C322C33);
        desk.append(0x2C342C35, 0x2C363B70, 0x72696D65, 0x2039373B, 0x20202020);
        Edge.same(desk.load(), 1);
        Edge.same(Desks.matrix(desk), "1 2 3 4 5 6\n");
        Edge.same(desk.prime(0), 97);
        // A parameter below 0: four bytes of 255, each a symbol.
        desk.append(0x6D617472, 0x69782031, 0x20313B20, 0x20202020, 0xFFFFFFFF);
        Edge.same(desk.load(), -4);
        Edge.same(View.ERROR.of(desk), "1 at 16");
    }

    private static long cut(RankDesk desk, int length) {
        desk.truncate(length);
        return 0;
    }

    private static void truncate() {
        Edge.says("3", "Cuts the input buffer to its first length bytes.");
        right("matrix 1 1;row 1", -4, "0\n", 16);
        RankDesk desk = new RankDesk();
        Desks.type(desk, "matrix 1 1;row 12;");
        desk.truncate(16);
        desk.append(0x3B202020, 0x20202020, 0x20202020, 0x20202020, 0x20202020);
        Edge.same(desk.load(), 1);
        Edge.same(desk.entry(0, 0), 1);
        Edge.leaves(Edge::full, full -> cut(full, 0), "0", View.INPUT);
        Edge.says("3", "- `length`: the new length, 0 to the current length");
        Edge.asks(Edge::full, full -> cut(full, 25), 0);
        Edge.answers(Edge::full, full -> cut(full, 24), 0);
        Edge.answers(Edge::full, full -> cut(full, 0), 0);
        Edge.asks(RankDesk::new, fresh -> cut(fresh, 0), 0);
        Edge.asks(() -> buffered(400), buffered -> cut(buffered, 400), 0);
        Edge.says("3", "Throws `IllegalArgumentException` if length is out of range");
        for (int length : new int[] {-1, 26, 400, Integer.MIN_VALUE, Integer.MAX_VALUE}) {
            Edge.refuses(Edge::full, full -> cut(full, length), Edge.BAD_VALUE);
        }
        Edge.refuses(RankDesk::new, fresh -> cut(fresh, 1), Edge.BAD_VALUE);
        Edge.refuses(() -> buffered(400), buffered -> cut(buffered, 401), Edge.BAD_VALUE);
        Edge.refuses(() -> cutTo(7), short7 -> cut(short7, 8), Edge.BAD_VALUE);
    }

    private static RankDesk cutTo(int length) {
        RankDesk desk = Edge.full();
        desk.truncate(length);
        return desk;
    }

    private static void right(String text, int answer, String matrix, int position) {
        RankDesk desk = new RankDesk();
        Desks.type(desk, text + "2;");
        desk.truncate(text.length());
        Edge.same(desk.load(), answer);
        Edge.same(View.ERROR.of(desk), "1 at " + position);
        Edge.same(Desks.matrix(desk), matrix);
    }

    private static void statements() {
        Edge.says("INPUT", "a text of one or more statements; each statement ends with ';'");
        wrong("", 1, 0);
        wrong(" ", 1, 1);
        right("matrix 1 1;", 0, "0\n");
        wrong("matrix 1 1", 1, 10);
        wrong("matrix 1 1;;", 1, 11);
        wrong(";matrix 1 1;", 1, 0);
        right("matrix 1 1;row 3;", 1, "3\n");
        wrong("matrix 1 1;row 3", 1, 16);
        right("matrix 1 1;prime 3;", 0, "0\n");
        wrong("matrix 1 1;prime 3", 1, 18);
        wrong("matrix 1 1 row 3;", 1, 11);
        wrong("matrix 1 2;row 3,4 prime 3;", 1, 19);
        wrong("matrix 1 1;prime 3 row 1;", 1, 19);
    }

    /** What a byte is, is told by what it does between two other tokens. */
    private static void bytes() {
        Edge.says("INPUT", "Tokens: a word is a maximal run of lowercase letters a-z; a number is a maximal run of decimal "
                + "digits, of any length; each other byte except space (32) and newline (10) is a symbol of its own.");
        for (int value = 0; value < 256; value++) {
            String sign = String.valueOf((char) value);
            boolean isBlank = value == 32 || value == 10;
            boolean isLetter = value >= 97 && value <= 122;
            boolean isDigit = value >= 48 && value <= 57;
            String word = isBlank ? "0 at -1" : isLetter ? "1 at 0" : value > 48 && isDigit ? "2 at 6"
                    : value == 48 ? "0 at -1" : "1 at 6";
            String number = isBlank ? "0 at -1" : isDigit ? "2 at 9" : value == 59 ? "1 at 11" : "1 at 10";
            Edge.same(value + " " + errorOf("matrix" + sign + "1 1;"), value + " " + word);
            Edge.same(value + " " + errorOf("matrix 1 1" + sign + ";"), value + " " + number);
        }
        for (String symbols : new String[] {",,", "--", "\u00ff\u00ff", "\t\t", "\0\0"}) {
            wrong("matrix 2 2;row 1,2;row 3" + symbols + "4;", 1, symbols.equals(",,") ? 25 : 24);
        }
        wrong("matrix 1 1;row --1;", 1, 16);
        Edge.says("INPUT", "of any length");
        right("matrix 1 1;row " + "0".repeat(380) + "7;", 1, "7\n");
        wrong("matrix 1 1;row " + "9".repeat(380) + ";", 2, 15);
        wrong("matrix 1 1;row 1" + "0".repeat(380) + ";", 2, 15);
        for (String number : new String[] {"256", "257", "65537", "4294967297", "18446744073709551617", "1001", "10001"}) {
            wrong("matrix " + number + " 1;", 2, 7);
            wrong("matrix 1 1;row " + number + ";", 2, 15);
        }
        for (String number : new String[] {"258", "65538", "4294967298", "18446744073709551618", "1002"}) {
            wrong("matrix 1 1;prime " + number + ";", 2, 17);
        }
    }

    private static String errorOf(String text) {
        RankDesk desk = new RankDesk();
        Desks.load(desk, text);
        return View.ERROR.of(desk);
    }

    private static void blanks() {
        Edge.says("INPUT", "Spaces and newlines only separate tokens.");
        right("matrix2 1;row1;row2;", 2, "1\n2\n");
        right(" \n matrix\n2 2\n ; row 1 , - 2\n;row\n-\n3,4;\n \n", 2, "1 -2\n-3 4\n");
        wrong("mat rix 1 1;", 1, 0);
        wrong("matrix 1 1;ro w 1;", 1, 11);
        wrong("matrix 1 1;row 1 2;", 1, 17);
        wrong("matrix 12;", 2, 7);
        wrong("matrixmatrix 1 1;", 1, 0);
        wrong("matrix 1 1;rowrow 1;", 1, 11);
        Edge.says("INPUT", "a word is a maximal run of lowercase letters a-z");
        for (String word : new String[] {"matrix", "row", "prime"}) {
            String ahead = word.equals("matrix") ? "" : "matrix 1 1;";
            String behind = word.equals("matrix") ? " 1 1;" : " 2;";
            right(ahead + word + behind, word.equals("row") ? 1 : 0, word.equals("row") ? "2\n" : "0\n");
            for (int at = 0; at < word.length(); at++) {
                String other = word.substring(0, at) + (char) (word.charAt(at) + 1) + word.substring(at + 1);
                wrong(ahead + other + behind, 1, ahead.length());
                wrong(ahead + word.substring(0, at) + word.substring(at + 1) + behind, 1, ahead.length());
                wrong(ahead + word.substring(0, at) + Character.toUpperCase(word.charAt(at)) + word.substring(at + 1)
                        + behind, 1, ahead.length());
            }
            wrong(ahead + word + "s" + behind, 1, ahead.length());
            wrong(ahead + "a" + word + behind, 1, ahead.length());
        }
    }

    private static void values() {
        Edge.says("INPUT", "V is a number from 0 to 20, less than 0 with a '-' ahead of it");
        for (int value = 0; value <= 25; value++) {
            if (value <= 20) {
                right(ONE + "row " + value + ";", 1, value + "\n");
                right(ONE + "row -" + value + ";", 1, (value == 0 ? "0" : "-" + value) + "\n");
            } else {
                wrong(ONE + "row " + value + ";", 2, 15);
                wrong(ONE + "row -" + value + ";", 2, 16);
            }
        }
        right(ONE + "row -\n 020;", 1, "-20\n");
        wrong(ONE + "row -\n 021;", 2, 18);
        wrong(ONE + "row -;", 1, 16);
        wrong(ONE + "row +1;", 1, 15);
        wrong(ONE + "row 1-;", 1, 16);
    }

    private static void matrixStatement() {
        Edge.says("INPUT", "the numbers of rows and columns, 1 to 6 each");
        for (int height = 1; height <= 6; height++) {
            for (int width = 1; width <= 6; width++) {
                String line = "0" + " 0".repeat(width - 1) + "\n";
                right("matrix " + height + " " + width + ";", 0, line.repeat(height));
            }
        }
        wrong("matrix 0 1;", 2, 7);
        wrong("matrix 7 1;", 2, 7);
        wrong("matrix 1 0;", 2, 9);
        wrong("matrix 1 7;", 2, 9);
        wrong("matrix 0 7;", 2, 7);
        wrong("matrix -1 1;", 1, 7);
        wrong("matrix 1 -1;", 1, 9);
        wrong("matrix 1;", 1, 8);
        wrong("matrix ;", 1, 7);
        wrong("matrix 1 1 1;", 1, 11);
        wrong("matrix 1,1;", 1, 8);
        Edge.says("INPUT", "the first statement, and only there");
        wrong("row 1;matrix 1 1;", 1, 0);
        wrong("prime 2;matrix 1 1;", 1, 0);
        wrong("matrix 1 1;matrix 1 1;", 1, 11);
        wrong("matrix 1 1;row 1;matrix 1 1;", 1, 17);
    }

    private static String listed(int width, int first) {
        StringBuilder text = new StringBuilder();
        for (int column = 0; column < width; column++) {
            text.append(column == 0 ? "" : ",").append(first + column);
        }
        return text.toString();
    }

    private static void rowStatement() {
        Edge.says("INPUT", "the next row of the matrix, one V for each column");
        for (int width = 1; width <= 6; width++) {
            String head = "matrix 2 " + width + ";row ";
            String list = listed(width, 1);
            int end = head.length() + list.length();
            String zeros = "0" + " 0".repeat(width - 1) + "\n";
            right(head + list + ";", 1, list.replace(',', ' ') + "\n" + zeros);
            wrong(head + list + ",7;", 1, end);
            if (width > 1) {
                wrong(head + listed(width - 1, 1) + ";", 1, end - 2);
            }
            wrong(head + list.substring(0, list.length() - 1) + ";", 1, end - 1);
        }
        right("matrix 2 3;row 1,2,3;row 4,5,6;", 2, "1 2 3\n4 5 6\n");
        Edge.says("INPUT", "rows without a statement have zeros");
        for (int told = 0; told <= 6; told++) {
            right("matrix 6 1;" + "row 9;".repeat(told), told, "9\n".repeat(told) + "0\n".repeat(6 - told));
        }
        RankDesk desk = Desks.of("matrix 3 2;row 1,2;row 3,4;row 5,6;");
        Edge.same(Desks.load(desk, "matrix 3 2;row 7,8;"), 1);
        Edge.same(Desks.matrix(desk), "7 8\n0 0\n0 0\n");
    }

    private static void primeStatement() {
        Edge.says("INPUT", "a prime number, 2 to 97.");
        for (int number = 0; number <= 110; number++) {
            String text = ONE + "prime " + number + ";";
            if (Edge.isPrime(number)) {
                right(text, 0, "0\n");
                Edge.same(Desks.of(text).prime(0), number);
            } else {
                wrong(text, number < 2 || number > 97 ? 2 : 3, 17);
            }
        }
        wrong(ONE + "prime ;", 1, 17);
        wrong(ONE + "prime -3;", 1, 17);
        wrong(ONE + "prime 2,3;", 1, 18);
        wrong(ONE + "prime 2 3;", 1, 19);
        Edge.says("INPUT", "At most 6 primes");
        String six = ONE + "prime 2;prime 97;prime 3;prime 89;prime 5;prime 7;";
        right(six, 0, "0\n");
        Edge.same(Desks.of(six).count(2), 6);
        Edge.same(Desks.of(six).prime(5), 7);
        wrong(six + "prime 11;", 5, 61);
        right(six + "row 4;", 1, "4\n");
        Edge.says("INPUT", "Rows, columns and primes are numbered from 0.");
        RankDesk desk = Desks.of("matrix 2 2;row 1,2;prime 13;row 3,4;prime 11;");
        Edge.same(desk.entry(0, 0), 1);
        Edge.same(desk.entry(1, 1), 4);
        Edge.same(desk.prime(0), 13);
        Edge.same(desk.prime(1), 11);
    }

    private static void order() {
        Edge.says("INPUT", "The parser reads tokens from left to right and stops at the first token that has an error");
        wrong("matrix 1 1;row 21;prime 4;", 2, 15);
        wrong("matrix 1 1;prime 4;row 21;", 3, 17);
        wrong("matrix 1 1;prime 5;prime 5;row;", 4, 25);
        wrong("matrix 1 1;row 1;row 21;", 5, 17);
        wrong("matrix 7 1 row", 2, 7);
        wrong("matrix 1 2;row 21;", 2, 15);
        Edge.says("INPUT", "if that token has several errors, the smallest code counts");
        // Behind these a number is out of range, is no prime or was told, and cannot stand there: 1.
        wrong("matrix 1 1;row 1 99;", 1, 17);
        wrong("matrix 1 1;prime 2 99;", 1, 19);
        wrong("matrix 1 1;prime 2 4;", 1, 19);
        wrong("matrix 1 1;prime 2 2;", 1, 19);
        wrong("99;", 1, 0);
        // Out of range and not a prime number: 2.
        wrong("matrix 1 1;prime 0;", 2, 17);
        wrong("matrix 1 1;prime 1;", 2, 17);
        wrong("matrix 1 1;prime 98;", 2, 17);
        // A word of code 5 that cannot stand there either: 1.
        wrong("matrix 1 1;row 1;prime 3 row 2;", 1, 25);
        wrong("matrix 1 1;row 1;prime row", 1, 23);
        wrong("matrix 1 1;prime 2;prime 3;prime 5;prime 7;prime 11;prime 13 prime 17;", 1, 61);
        wrong("row", 1, 0);
        // The seventh word prime, ahead of a number with errors of its own.
        wrong("matrix 1 1;prime 2;prime 3;prime 5;prime 7;prime 11;prime 13;prime 2;", 5, 61);
        wrong("matrix 1 1;prime 2;prime 3;prime 5;prime 7;prime 11;prime 13;prime", 5, 61);
    }

    private static void positions() {
        Edge.says("INPUT", "The error position is the offset of the token's first byte; for the end of the text it is the "
                + "text's length.");
        wrong("x", 1, 0);
        wrong("\n\n  x", 1, 4);
        wrong("matrix 1 1;  xyz", 1, 13);
        wrong("matrix 1 1;row  \n 0021;", 2, 18);
        wrong("matrix 1 1;row 1 \n ", 1, 19);
        wrong("\n", 1, 1);
        wrong(padded("matrix 1 1;row 1", 399), 1, 399);
        wrong(padded("matrix 1 1;row 1", 400), 1, 400);
        wrong(" ".repeat(399) + "x", 1, 399);
        wrong(" ".repeat(400), 1, 400);
    }

    private static void codes() {
        Edge.says("INPUT", "1 the token cannot stand here (also a ';' ahead of the last V of a row, a ',' behind it, and "
                + "the end of an empty text)");
        wrong("matrix 1 3;row 1,2;", 1, 18);
        right("matrix 1 3;row 1,2,3;", 1, "1 2 3\n");
        wrong("matrix 1 3;row 1,2,3,;", 1, 20);
        wrong("matrix 1 1;row ;", 1, 15);
        wrong("", 1, 0);
        Edge.says("INPUT", "2 a number is out of range");
        wrong("matrix 7 7;", 2, 7);
        wrong("matrix 6 7;", 2, 9);
        wrong("matrix 6 6;row 20,-20,21;", 2, 22);
        wrong("matrix 1 1;prime 97;prime 98;", 2, 26);
        Edge.says("INPUT", "3 a number that is not a prime number");
        wrong("matrix 1 1;prime 4;", 3, 17);
        wrong("matrix 1 1;prime 96;", 3, 17);
        wrong("matrix 1 1;prime 91;", 3, 17);
        Edge.says("INPUT", "4 a prime number that was told already");
        wrong("matrix 1 1;prime 7;prime 07;", 4, 25);
        wrong("matrix 1 1;prime 7;prime 5;prime 7;", 4, 33);
        wrong("matrix 1 1;prime 7;prime 5;prime 3;prime 11;prime 13;prime 13;", 4, 59);
        RankDesk again = Desks.of("matrix 1 1;prime 7;");
        Edge.same(Desks.load(again, "matrix 1 1;prime 7;"), 0);
        Edge.says("INPUT", "5 the word row of a row that the matrix does not have, the word prime of a seventh prime");
        for (int height = 1; height <= 6; height++) {
            String text = "matrix " + height + " 1;" + "row 1;".repeat(height);
            right(text, height, "1\n".repeat(height));
            wrong(text + "row 1;", 5, text.length());
            wrong(text + " row", 5, text.length() + 1);
        }
    }

    private static void load() {
        Edge.says("4", "Parses the input buffer and empties it. On success everything but the two slots and the output "
                + "buffer is that of the text.");
        RankDesk loaded = Edge.full();
        RankDesk other = Desks.of("matrix 2 1;row 7;prime 3;");
        Edge.same(loaded.load(), 1);
        Edge.same(View.NOW.of(loaded), View.NOW.of(other));
        Edge.same(View.ERROR.of(loaded), "0 at -1");
        Edge.same(loaded.undoCount(), 6);
        Edge.same(Check.told(() -> cut(loaded, 1)), Edge.BAD_VALUE);
        Edge.leaves(Edge::full, RankDesk::load, "1", View.NOW, View.ERROR, View.PAST, View.INPUT);
        Edge.says("4", "Returns the number of row statements; PARSE_ERROR if there is a parse error (then only the buffer "
                + "and the parse error change).");
        right("matrix 6 1;prime 2;", 0, "0\n".repeat(6));
        right("matrix 6 1;row 1;prime 2;row 2;", 2, "1\n2\n0\n0\n0\n0\n");
        wrong("matrix 2 2;row 1,2;prime 3;row 3,4;row", 5, 35);
        wrong("matrix 2 2;row 1,2;prime 3;row 3,4;x", 1, 35);
    }

    private static void errors() {
        Edge.says("5", "Returns the code of the parse error of the last load(); 0 if it had none or there was no load().");
        Edge.asks(RankDesk::new, RankDesk::errorCode, 0);
        Edge.asks(Edge::full, RankDesk::errorCode, 2);
        Edge.asks(Edge.text(ONE), RankDesk::errorCode, 0);
        Edge.says("6", "Returns the position of the parse error of the last load(); NONE if it had none or there was no "
                + "load().");
        Edge.asks(RankDesk::new, RankDesk::errorPosition, RankDesk.NONE);
        Edge.asks(Edge::full, RankDesk::errorPosition, 15);
        Edge.asks(Edge.text(ONE), RankDesk::errorPosition, RankDesk.NONE);
        RankDesk desk = new RankDesk();
        String[] texts = {"", ONE, "matrix 1 9;", "matrix 1 1;prime 9;", ONE, " "};
        String[] due = {"1 at 0", "0 at -1", "2 at 9", "3 at 17", "0 at -1", "1 at 1"};
        for (int i = 0; i < texts.length; i++) {
            Desks.load(desk, texts[i]);
            Edge.same(View.ERROR.of(desk), due[i]);
        }
        desk.undo();
        Edge.same(View.ERROR.of(desk), "1 at 1");
    }

    private static void counts() {
        Edge.says("7", "Throws `IllegalArgumentException` if what is out of range");
        Edge.ranges(Edge::full, 0, 6, RankDesk::count, 3, 3);
        Edge.ranges(RankDesk::new, 0, 6, RankDesk::count, 1, 0);
        Edge.says("7", "0 rows; 1 columns; 2 primes; 3 entries that are not 0; 4 relations of the certificate; 5 calls of "
                + "probe()");
        Edge.says("7", "Returns that number.");
        int[] due = {3, 3, 3, 9, 2, 1, 3};
        for (int what = 0; what < due.length; what++) {
            int number = what;
            Edge.asks(Edge::full, desk -> desk.count(number), due[what]);
        }
        Edge.asks(Edge.text("matrix 2 5;"), desk -> desk.count(0), 2);
        Edge.asks(Edge.text("matrix 2 5;"), desk -> desk.count(1), 5);
        Edge.asks(Edge.text("matrix 2 5;"), desk -> desk.count(3), 0);
        Edge.asks(Edge.text("matrix 6 6;" + "row -1,1,-20,20,2,-2;".repeat(6)), desk -> desk.count(3), 36);
        Edge.asks(Edge.text("matrix 2 2;row 0,0;row 0,-1;"), desk -> desk.count(3), 1);
        Edge.asks(Edge.text("matrix 2 2;row -0,0;row 0,0;"), desk -> desk.count(3), 0);
        Edge.says("7", "5 and 6 are 0 behind load()");
        RankDesk desk = Edge.full();
        desk.load();
        Edge.same(desk.count(5), 0);
        Edge.same(desk.count(6), 0);
        primesAndEntries();
    }

    private static void primesAndEntries() {
        Edge.says("8", "- `place`: place of a prime, from 0");
        Edge.answers(Edge::full, full -> full.prime(0), 2);
        Edge.refuses(Edge::full, full -> full.prime(-1), Edge.OUTSIDE);
        Edge.says("8", "Returns the prime number.");
        Edge.asks(Edge::full, full -> full.prime(1), 5);
        Edge.says("8", "Throws `IndexOutOfBoundsException` if there is no such prime");
        Edge.numbered(Edge::full, 3, RankDesk::prime, 2, 7);
        Edge.numbered(Edge.text(ONE + "prime 97;"), 1, RankDesk::prime, 97, 97);
        Edge.refuses(RankDesk::new, fresh -> fresh.prime(0), Edge.OUTSIDE);
        Edge.refuses(Edge.text(ONE), none -> none.prime(0), Edge.OUTSIDE);
        Edge.refuses(InputEdges::fewerPrimes, fewer -> fewer.prime(1), Edge.OUTSIDE);
        Edge.says("9", "Returns the entry.");
        Edge.asks(Edge::full, full -> full.entry(2, 2), -5);
        Edge.says("9", "Throws `IndexOutOfBoundsException` if there is no such row or column");
        Edge.numbered(Edge.text("matrix 2 4;row 1,2,3,4;row 5,6,7,-8;"), 2, (d, row) -> d.entry(row, 3), 4, -8);
        Edge.numbered(Edge.text("matrix 2 4;row 1,2,3,4;row 5,6,7,-8;"), 4, (d, column) -> d.entry(1, column), 5, -8);
        Edge.numbered(Edge.text("matrix 6 1;row 20;row 0;row 0;row 0;row 0;row -20;"), 6, (d, row) -> d.entry(row, 0),
                20, -20);
        Edge.refuses(InputEdges::smaller, desk2 -> desk2.entry(1, 0), Edge.OUTSIDE);
        Edge.refuses(InputEdges::smaller, desk2 -> desk2.entry(0, 1), Edge.OUTSIDE);
    }

    private static RankDesk fewerPrimes() {
        RankDesk desk = Desks.of("matrix 1 1;prime 2;prime 3;");
        Desks.load(desk, "matrix 1 1;prime 5;");
        return desk;
    }

    private static RankDesk smaller() {
        RankDesk desk = Desks.of("matrix 2 2;row 1,2;row 3,4;");
        Desks.load(desk, "matrix 1 1;row 5;");
        return desk;
    }

    static void run() {
        newObject();
        buffer();
        truncate();
        statements();
        bytes();
        blanks();
        values();
        matrixStatement();
        rowStatement();
        primeStatement();
        order();
        positions();
        codes();
        load();
        errors();
        counts();
    }
}
