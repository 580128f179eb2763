/** Promises 60 and 63 to 65: what is written. */
public final class OutputTest {
    private static String echelon(RankDesk desk, int m) {
        return Desks.written(desk, desk.writeEchelon(m));
    }

    private static String ranks(RankDesk desk, int m) {
        return Desks.written(desk, desk.writeRanks(m));
    }

    private static void matrices() {
        RankDesk desk = Desks.of("matrix 2 3;row 1,-20,0;row 10,7,-3;");
        Check.answers("60 length", desk::writeMatrix, 16);
        Check.same("60 matrix", Desks.matrix(desk), "1 -20 0\n10 7 -3\n");
        Check.same("60 a new desk", Desks.matrix(new RankDesk()), "0\n");
    }

    private static void echelons() {
        RankDesk desk = Desks.of("matrix 3 3;row 2,4,6;row 1,2,3;row 3,1,-5;");
        Check.same("63 modulo 2", echelon(desk, 2), "1 0 1\n0 1 0\n");
        Check.same("63 modulo 5", echelon(desk, 5), "1 2 0\n0 0 1\n");
        // Over fractions c2 = -13/5 c0 + 14/5 c1; modulo 7 that is 3 c0 + 0 c1.
        Check.same("63 modulo 7", echelon(desk, 7), "1 0 3\n0 1 0\n");
        Check.answers("63 length", () -> desk.writeEchelon(7), 12);
        Check.answers("63 zeros", () -> new RankDesk().writeEchelon(2), 0);
        Check.same("63 negative entries", echelon(Desks.of("matrix 1 2;row -1,1;"), 97), "1 96\n");
        Check.same("63 order", echelon(Desks.of("matrix 2 3;row 0,0,3;row 0,2,1;"), 5), "0 1 0\n0 0 1\n");
        Check.isBadValue("63 integers", () -> desk.writeEchelon(0));
        Check.isBadValue("63 no modulus", () -> desk.writeEchelon(15));
        Check.isBadValue("63 no modulus", () -> desk.writeEchelon(-3));
        Check.isBadValue("63 no modulus", () -> desk.writeEchelon(101));
    }

    private static void rankTables() {
        RankDesk desk = Desks.of("matrix 3 3;row 2,4,6;row 1,2,3;row 3,1,-5;");
        Check.same("64 integers", ranks(desk, 0), "111\n111\n122\n");
        Check.same("64 modulo 2", ranks(desk, 2), "000\n111\n122\n");
        Check.same("64 modulo 5", ranks(desk, 5), "111\n111\n112\n");
        Check.same("64 wide", ranks(Desks.of("matrix 1 4;row 0,0,1,1;"), 0), "0011\n");
        Check.isBadValue("64 modulus", () -> desk.writeRanks(1));
        Check.isBadValue("64 modulus", () -> desk.writeRanks(-7));
    }

    private static void bytes() {
        RankDesk desk = Desks.of("matrix 1 2;row -1,2;");
        Check.isOutside("65 empty", () -> desk.outputByte(0));
        desk.writeMatrix();
        Check.answers("65 first", () -> desk.outputByte(0), '-');
        Check.answers("65 last", () -> desk.outputByte(4), '\n');
        Check.isOutside("65 behind", () -> desk.outputByte(5));
        Check.isOutside("65 negative", () -> desk.outputByte(-1));
        Check.isOutside("65 far", () -> desk.outputByte(Integer.MAX_VALUE));
        Check.isBadValue("63 throws", () -> desk.writeEchelon(0));
        Check.answers("65 stays behind what throws", () -> desk.outputByte(1), '1');
        desk.setEntry(0, 0, 5);
        Check.answers("65 stays when the matrix changes", () -> desk.outputByte(1), '1');
        desk.writeRanks(0);
        Check.isOutside("65 replaced", () -> desk.outputByte(3));
    }

    public static void main(String[] args) {
        matrices();
        echelons();
        rankTables();
        bytes();
        Check.end();
    }
}
