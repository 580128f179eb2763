/** Promises 42 to 47 and 56 to 59: changes of the matrix, slots and undo. */
public final class ChangesTest {
    private static final String THREE = "matrix 3 3;row 2,4,6;row 1,2,3;row 3,1,-5;prime 2;prime 5;prime 7;";

    private static void entries() {
        RankDesk desk = Desks.of(THREE);
        Check.answers("42 previous", () -> desk.setEntry(2, 2, -20), -5);
        Check.answers("42 new", () -> desk.entry(2, 2), -20);
        Check.answers("42 previous", () -> desk.setEntry(2, 2, 20), -20);
        Check.answers("42 the same", () -> desk.setEntry(2, 2, 20), 20);
        Check.answers("42 undo also if nothing changes", desk::undoCount, 4);
        Check.isBadValue("42 above", () -> desk.setEntry(0, 0, 21));
        Check.isBadValue("42 below", () -> desk.setEntry(0, 0, -21));
        Check.isOutside("42 row first", () -> desk.setEntry(3, 0, 21));
        Check.isOutside("42 column first", () -> desk.setEntry(0, 3, 21));
        Check.isOutside("42 negative", () -> desk.setEntry(-1, 0, 0));
        Check.isOutside("42 negative", () -> desk.setEntry(0, -1, 0));
        Check.answers("42 no undo of what throws", desk::undoCount, 4);
    }

    private static void swaps() {
        RankDesk desk = Desks.of("matrix 2 3;row 1,2,3;row 4,5,6;");
        Check.answers("43 rank", () -> desk.swapRows(0, 1), 2);
        Check.same("43 matrix", Desks.matrix(desk), "4 5 6\n1 2 3\n");
        Check.answers("43 with itself", () -> desk.swapRows(1, 1), 2);
        Check.same("43 matrix", Desks.matrix(desk), "4 5 6\n1 2 3\n");
        Check.isOutside("43 a", () -> desk.swapRows(2, 0));
        Check.isOutside("43 b", () -> desk.swapRows(0, 2));
        Check.isOutside("43 negative", () -> desk.swapRows(-1, 0));
        Check.isOutside("43 negative", () -> desk.swapRows(0, -1));
        Check.answers("44 rank", () -> desk.swapColumns(2, 0), 2);
        Check.same("44 matrix", Desks.matrix(desk), "6 5 4\n3 2 1\n");
        Check.answers("44 with itself", () -> desk.swapColumns(2, 2), 2);
        Check.isOutside("44 a", () -> desk.swapColumns(3, 0));
        Check.isOutside("44 b", () -> desk.swapColumns(0, 3));
        Check.isOutside("44 negative", () -> desk.swapColumns(-1, 0));
        Check.isOutside("44 negative", () -> desk.swapColumns(0, -1));
        Check.answers("44 undo", desk::undoCount, 5);
    }

    private static void sums() {
        RankDesk desk = Desks.of("matrix 2 2;row 2,-2;row 1,3;");
        Check.answers("45 rank", () -> desk.addRow(0, 1, -2), 2);
        Check.same("45 matrix", Desks.matrix(desk), "0 -8\n1 3\n");
        Check.isBadState("45 35", () -> desk.addRow(1, 0, -4));
        Check.isBadState("45 -21", () -> desk.addRow(1, 0, 3));
        Check.same("45 stays", Desks.matrix(desk), "0 -8\n1 3\n");
        Check.answers("45 -13", () -> desk.addRow(1, 0, 2), 2);
        Check.answers("45 nothing", () -> desk.addRow(0, 1, 0), 2);
        Check.same("45 matrix", Desks.matrix(desk), "0 -8\n1 -13\n");
        Check.isBadValue("45 itself", () -> desk.addRow(0, 0, 1));
        Check.isBadValue("45 factor", () -> desk.addRow(0, 1, 10));
        Check.isBadValue("45 factor", () -> desk.addRow(0, 1, -10));
        Check.isOutside("45 a", () -> desk.addRow(2, 2, 10));
        Check.isOutside("45 b", () -> desk.addRow(0, 2, 10));
        Check.isOutside("45 negative", () -> desk.addRow(-1, 0, 1));
        Check.isOutside("45 negative", () -> desk.addRow(0, -1, 1));
        Check.isBadValue("45 value ahead of state", () -> desk.addRow(1, 1, 9));
        Check.answers("45 undo", desk::undoCount, 4);
        RankDesk edge = Desks.of("matrix 2 2;row 11,-11;row 1,-1;");
        Check.answers("45 to 20 and -20", () -> edge.addRow(0, 1, 9), 1);
        Check.same("45 matrix", Desks.matrix(edge), "20 -20\n1 -1\n");
        Check.isBadState("45 to 21", () -> edge.addRow(0, 1, 1));
        RankDesk first = Desks.of("matrix 2 2;row 20,0;row 1,0;");
        Check.isBadState("45 column 0", () -> first.addRow(0, 1, 1));
        RankDesk last = Desks.of("matrix 2 2;row 0,-20;row 0,1;");
        Check.isBadState("45 column 1", () -> last.addRow(0, 1, -1));
        Check.answers("45 to 0", () -> edge.addRow(1, 0, 0), 1);
    }

    private static void negatives() {
        RankDesk desk = Desks.of("matrix 2 3;row 20,-20,0;row 1,2,3;");
        Check.answers("46 rank", () -> desk.negateRow(0), 2);
        Check.same("46 matrix", Desks.matrix(desk), "-20 20 0\n1 2 3\n");
        Check.answers("46 rank", () -> desk.negateRow(1), 2);
        Check.same("46 matrix", Desks.matrix(desk), "-20 20 0\n-1 -2 -3\n");
        Check.isOutside("46 row", () -> desk.negateRow(2));
        Check.isOutside("46 row", () -> desk.negateRow(-1));
    }

    private static void transposes() {
        RankDesk desk = Desks.of("matrix 2 3;row 1,2,3;row 4,5,6;prime 3;");
        desk.setVector(0, 1);
        desk.addRelation();
        desk.claim(1, 4);
        desk.probe(0);
        Check.answers("47 rows", desk::transpose, 3);
        Check.same("47 matrix", Desks.matrix(desk), "1 4\n2 5\n3 6\n");
        Check.answers("47 columns", () -> desk.count(1), 2);
        Check.answers("47 vector", () -> desk.vector(2), 0);
        Check.answers("47 no claim", () -> desk.claimed(0), -1);
        Check.answers("47 no relations", () -> desk.count(4), 0);
        Check.answers("47 guess stays", () -> desk.guess(0), 0);
        Check.answers("47 primes stay", () -> desk.prime(0), 3);
        Check.isOutside("47 column", () -> desk.entry(0, 2));
        Check.answers("47 undo", desk::undo, 5);
        Check.same("47 undone", Desks.matrix(desk), "1 2 3\n4 5 6\n");
        Check.answers("47 undone", () -> desk.vector(0), 1);
        Check.answers("47 undone", () -> desk.claimed(1), 4);
        Check.answers("47 undone", () -> desk.relationOf(0, 0), 1);
    }

    private static String all(RankDesk desk) {
        StringBuilder text = new StringBuilder();
        for (int what = 0; what < 7; what++) {
            text.append(desk.count(what)).append(' ');
        }
        for (int place = 0; place < desk.count(2); place++) {
            text.append(desk.prime(place)).append(' ');
        }
        for (int what = 0; what < 5; what++) {
            text.append(desk.guess(what)).append(' ');
        }
        for (int row = 0; row < desk.count(0); row++) {
            text.append(desk.vector(row)).append(' ');
        }
        return text.append('\n').append(Desks.matrix(desk)).append(Desks.certificate(desk)).toString();
    }

    private static int change(RankDesk desk, int which) {
        switch (which) {
            case 0:
                return Desks.load(desk, "matrix 1 2;row 3,4;prime 3;");
            case 1:
                return desk.setEntry(0, 0, 9);
            case 2:
                return desk.swapRows(0, 2);
            case 3:
                return desk.swapColumns(1, 2);
            case 4:
                return desk.addRow(0, 1, 1);
            case 5:
                return desk.negateRow(2);
            case 6:
                return desk.transpose();
            case 7:
                return desk.probe(1);
            case 8:
                return desk.repair();
            case 9:
                return desk.setVector(1, 77);
            case 10:
                return desk.claim(1, 2);
            case 11:
                return desk.addRelation();
            case 12:
                return desk.dropRelation(0);
            case 13:
                return desk.certify();
            case 14:
                return desk.clearCertificate();
            default:
                return desk.restore(1);
        }
    }

    private static RankDesk prepared() {
        RankDesk desk = Desks.of(THREE);
        desk.keep(1);
        desk.probe(0);
        desk.setVector(0, -1);
        desk.setVector(1, 2);
        desk.addRelation();
        desk.claim(6, 3);
        return desk;
    }

    private static void undoOfEach() {
        for (int which = 0; which <= 15; which++) {
            RankDesk desk = prepared();
            String before = all(desk);
            change(desk, which);
            Check.isTrue("58 call " + which + " changes something", !all(desk).equals(before));
            Check.same("59 call " + which, desk.undoCount(), 6);
            Check.same("58 call " + which, desk.undo(), 5);
            Check.same("58 call " + which, all(desk), before);
        }
    }

    private static void undoOfNothing() {
        RankDesk desk = new RankDesk();
        desk.keep(0);
        desk.setEntry(0, 0, 0);
        desk.swapRows(0, 0);
        desk.swapColumns(0, 0);
        desk.negateRow(0);
        desk.transpose();
        Check.answers("59 also if nothing changes", desk::undoCount, 5);
        for (int i = 4; i >= 0; i--) {
            Check.same("58 one less", desk.undo(), i);
        }
        desk.repair();
        desk.setVector(0, 0);
        desk.clearCertificate();
        desk.restore(0);
        desk.certify();
        desk.certify();
        desk.claim(0, 0);
        desk.claim(0, 0);
        Check.answers("59 at most 6", desk::undoCount, 6);
        Check.answers("41 certified", () -> desk.count(4), 1);
        for (int i = 5; i >= 0; i--) {
            Check.same("58 one less", desk.undo(), i);
        }
        Check.isBadState("58 no more", desk::undo);
        Check.answers("58 at the sixth last call", () -> desk.count(4), 0);
    }

    private static void undoLeaves() {
        RankDesk desk = Desks.of("matrix 1 1;row 5;");
        desk.setEntry(0, 0, 6);
        int length = desk.writeMatrix();
        Desks.type(desk, "matrix 2 1;");
        desk.undo();
        Check.answers("58 matrix", () -> desk.entry(0, 0), 5);
        Check.same("58 the output stays", Desks.written(desk, length), "6\n");
        desk.keep(0);
        desk.undo();
        Check.answers("58 load undone", () -> desk.entry(0, 0), 0);
        Check.answers("58 the input stays", desk::load, 0);
        Check.answers("58 the input stays", () -> desk.count(0), 2);
        Check.answers("58 the slot stays", () -> desk.restore(0), 1);
        Check.answers("58 the slot stays", () -> desk.entry(0, 0), 5);
        desk.undo();
        desk.undo();
        Check.isBadState("58 no more", desk::undo);
    }

    private static void slots() {
        RankDesk desk = prepared();
        String kept = all(desk);
        Check.isOutside("56 slot", () -> desk.keep(2));
        Check.isOutside("56 slot", () -> desk.keep(-1));
        Check.isOutside("57 slot", () -> desk.restore(2));
        Check.isOutside("57 slot", () -> desk.restore(-1));
        Check.isBadState("57 nothing kept", () -> desk.restore(0));
        int undoCount = desk.undoCount();
        Check.answers("56 rank", () -> desk.keep(0), 2);
        Check.same("56 is not undone", desk.undoCount(), undoCount);
        Desks.load(desk, "matrix 1 1;row 4;");
        Check.answers("57 rank", () -> desk.restore(0), 2);
        Check.same("57 all", all(desk), kept);
        desk.setEntry(0, 0, 1);
        desk.setVector(2, 9);
        desk.certify();
        Check.answers("57 the slot keeps it", () -> desk.restore(0), 2);
        Check.same("57 all", all(desk), kept);
        Check.answers("57 undo count", desk::undoCount, 6);
        desk.undo();
        Check.answers("58 restore undone", () -> desk.vector(2), 9);
        Desks.load(desk, "matrix 1 1;row 0;");
        Check.answers("56 in place of what was there", () -> desk.keep(0), 0);
        Check.answers("57 the other slot", () -> desk.restore(1), 2);
        Check.answers("57 the new one", () -> desk.restore(0), 0);
        Check.same("57 the new one", Desks.matrix(desk), "0\n");
    }

    public static void main(String[] args) {
        entries();
        swaps();
        sums();
        negatives();
        transposes();
        undoOfEach();
        undoOfNothing();
        undoLeaves();
        slots();
        Check.end();
    }
}
