/** Promises 19 to 22, 24 to 28, 30, 31 and 61: relations, and sets of rows. */
public final class RelationsTest {
    private static final String THREE = "matrix 3 3;row 2,4,6;row 1,2,3;row 3,1,-5;";

    private static String relation(RankDesk desk, int row) {
        StringBuilder text = new StringBuilder();
        for (int k = 0; k < desk.count(0); k++) {
            text.append(desk.relation(row, k)).append(' ');
        }
        return text.toString();
    }

    private static void rowRelations() {
        RankDesk desk = Desks.of(THREE);
        Check.same("19 of row 1", relation(desk, 1), "-1 2 0 ");
        Check.isMissing("19 of row 0", () -> desk.relation(0, 0));
        Check.isMissing("19 of row 2", () -> desk.relation(2, 1));
        Check.isOutside("19 row", () -> desk.relation(3, 0));
        Check.isOutside("19 row", () -> desk.relation(-1, 0));
        Check.isOutside("19 k", () -> desk.relation(1, 3));
        Check.isOutside("19 k first", () -> desk.relation(0, -1));
        RankDesk zero = Desks.of("matrix 3 1;row 0;row -4;row 6;");
        Check.same("19 of a row of zeros", relation(zero, 0), "1 0 0 ");
        Check.same("19 behind it", relation(zero, 2), "0 3 2 ");
        RankDesk sum = Desks.of("matrix 4 2;row 3,0;row 6,0;row 0,5;row 1,1;");
        Check.same("19 of row 3", relation(sum, 3), "-5 0 -3 15 ");
        Check.same("19 of row 1", relation(sum, 1), "-2 1 0 0 ");
        RankDesk sign = Desks.of("matrix 2 1;row 2;row -2;");
        Check.same("19 own number above 0", relation(sign, 1), "1 1 ");
    }

    private static void columnRelations() {
        RankDesk desk = Desks.of(THREE);
        Check.answers("20 of column 2", () -> desk.columnRelation(2, 0), 13);
        Check.answers("20 of column 2", () -> desk.columnRelation(2, 1), -14);
        Check.answers("20 of column 2", () -> desk.columnRelation(2, 2), 5);
        Check.isMissing("20 of column 0", () -> desk.columnRelation(0, 0));
        Check.isMissing("20 of column 1", () -> desk.columnRelation(1, 2));
        Check.isOutside("20 column", () -> desk.columnRelation(3, 0));
        Check.isOutside("20 k", () -> desk.columnRelation(0, 3));
        Check.isOutside("20 negative", () -> desk.columnRelation(-1, 0));
        Check.isOutside("20 negative", () -> desk.columnRelation(0, -1));
        RankDesk wide = Desks.of("matrix 1 4;row 0,4,-6,0;");
        Check.answers("20 wide", () -> wide.columnRelation(0, 0), 1);
        Check.answers("20 wide", () -> wide.columnRelation(2, 1), 3);
        Check.answers("20 wide", () -> wide.columnRelation(2, 2), 2);
        Check.answers("20 wide", () -> wide.columnRelation(3, 3), 1);
        Check.answers("20 wide", () -> wide.columnRelation(3, 1), 0);
    }

    private static void relationsModulo() {
        RankDesk desk = Desks.of(THREE);
        Check.answers("21 modulo 5", () -> desk.relationMod(5, 1, 0), 2);
        Check.answers("21 modulo 5", () -> desk.relationMod(5, 1, 1), 1);
        Check.answers("21 modulo 5", () -> desk.relationMod(5, 1, 2), 0);
        Check.answers("21 a row of zeros modulo 2", () -> desk.relationMod(2, 0, 0), 1);
        Check.answers("21 a row of zeros modulo 2", () -> desk.relationMod(2, 0, 1), 0);
        Check.isMissing("21 in the profile", () -> desk.relationMod(2, 1, 0));
        Check.isMissing("21 in the profile", () -> desk.relationMod(5, 0, 0));
        Check.isBadValue("21 integers", () -> desk.relationMod(0, 1, 0));
        Check.isBadValue("21 no modulus", () -> desk.relationMod(6, 0, 0));
        Check.isBadValue("21 no modulus", () -> desk.relationMod(101, 1, 0));
        Check.isOutside("21 row first", () -> desk.relationMod(0, 3, 0));
        Check.isOutside("21 k first", () -> desk.relationMod(0, 1, -1));
        RankDesk many = Desks.of("matrix 3 2;row 3,1;row 1,4;row 5,6;");
        // Modulo 7: 3a + b + 5 = 0 and a + 4b + 6 = 0.
        Check.answers("21 modulo 7", () -> many.relationMod(7, 2, 0), 0);
        Check.answers("21 modulo 7", () -> many.relationMod(7, 2, 1), 2);
        Check.answers("21 modulo 7", () -> many.relationMod(7, 2, 2), 1);
        // Modulo 11 row 1 is 4 times row 0, and row 2 is not a multiple of it.
        Check.answers("21 modulo 11", () -> many.relationMod(11, 1, 0), 7);
        Check.isMissing("21 modulo 11", () -> many.relationMod(11, 2, 0));
    }

    private static void weights() {
        RankDesk desk = Desks.of("matrix 4 2;row 3,0;row 6,0;row 0,5;row 1,-1;");
        Check.answers("22 own number", () -> desk.weight(3), 15);
        Check.answers("22 a negative number", () -> desk.weight(1), 2);
        Check.isMissing("22 in the profile", () -> desk.weight(2));
        Check.isOutside("22 row", () -> desk.weight(4));
        Check.isOutside("22 row", () -> desk.weight(-1));
    }

    private static void rowSets() {
        RankDesk desk = Desks.of(THREE);
        Check.isTrue("24 row 2", desk.isNeeded(0, 2));
        Check.isTrue("24 row 0", !desk.isNeeded(0, 0));
        Check.isTrue("24 row 1 modulo 2", desk.isNeeded(2, 1));
        Check.isTrue("24 row 0 modulo 2", !desk.isNeeded(2, 0));
        Check.isOutside("24 row", () -> desk.isNeeded(0, 3) ? 1 : 0);
        Check.isOutside("24 row first", () -> desk.isNeeded(1, -1) ? 1 : 0);
        Check.isBadValue("24 modulus", () -> desk.isNeeded(1, 0) ? 1 : 0);
        Check.isTrue("25 rows 0 and 2", desk.areIndependent(0, 5));
        Check.isTrue("25 rows 0 and 1", !desk.areIndependent(0, 3));
        Check.isTrue("25 no rows", desk.areIndependent(0, 0));
        Check.isTrue("25 row 0 modulo 2", !desk.areIndependent(2, 1));
        Check.isTrue("25 all", !desk.areIndependent(0, 7));
        Check.isBadValue("25 modulus", () -> desk.areIndependent(8, 1) ? 1 : 0);
        Check.isBadValue("25 set", () -> desk.areIndependent(0, 8) ? 1 : 0);
        Check.answers("26 integers", () -> desk.bases(0), 2);
        Check.answers("26 modulo 2", () -> desk.bases(2), 1);
        Check.answers("26 zeros", () -> Desks.of("matrix 3 1;").bases(0), 1);
        Check.answers("26 one column", () -> Desks.of("matrix 3 1;row 1;row 2;row 3;").bases(0), 3);
        Check.isBadValue("26 modulus", () -> desk.bases(-2));
    }

    private static void extensions() {
        RankDesk desk = Desks.of(THREE);
        Check.answers("27 of none", () -> desk.extensions(0, 0), 7);
        Check.answers("27 of none modulo 2", () -> desk.extensions(2, 0), 6);
        Check.answers("27 of row 0", () -> desk.extensions(0, 1), 4);
        Check.answers("27 of row 2", () -> desk.extensions(0, 4), 3);
        Check.answers("27 of a basis", () -> desk.extensions(0, 6), 0);
        Check.isBadValue("27 dependent", () -> desk.extensions(0, 3));
        Check.isBadValue("27 dependent modulo 2", () -> desk.extensions(2, 1));
        Check.isBadValue("27 set", () -> desk.extensions(0, 8));
        Check.isBadValue("27 modulus", () -> desk.extensions(1, 0));
        Check.answers("28 of row 0", () -> desk.closure(0, 1), 3);
        Check.answers("28 of none", () -> desk.closure(0, 0), 0);
        Check.answers("28 of none modulo 2", () -> desk.closure(2, 0), 1);
        Check.answers("28 of row 2", () -> desk.closure(0, 4), 4);
        Check.answers("28 of rows 0 and 1", () -> desk.closure(0, 3), 3);
        Check.answers("28 of rows 1 and 2", () -> desk.closure(0, 6), 7);
        Check.isBadValue("28 set", () -> desk.closure(0, -8));
        Check.isBadValue("28 modulus", () -> desk.closure(99, 0));
    }

    private static void circuits() {
        RankDesk desk = Desks.of(THREE);
        Check.answers("30 integers", () -> desk.circuits(0), 1);
        Check.answers("30 modulo 2", () -> desk.circuits(2), 1);
        RankDesk plane = Desks.of("matrix 4 2;row 1,0;row 0,1;row 1,1;row 2,2;");
        Check.answers("30 a plane", () -> plane.circuits(0), 3);
        Check.answers("30 modulo 2", () -> plane.circuits(2), 2);
        Check.answers("30 none", () -> Desks.of("matrix 2 2;row 1,2;row 2,1;").circuits(0), 0);
        Check.answers("30 zeros", () -> Desks.of("matrix 6 1;").circuits(0), 6);
        Check.answers("30 equal rows", () -> Desks.of("matrix 6 1;row 1;row 1;row 1;row 1;row 1;row 1;").circuits(0),
                15);
        RankDesk all = Desks.of("matrix 4 3;row 1,0,0;row 0,1,0;row 0,0,1;row 1,1,1;");
        Check.answers("30 all rows", () -> all.circuits(0), 1);
        Check.answers("31 all rows", () -> all.circuit(0, 3), 15);
        Check.isBadValue("30 modulus", () -> desk.circuits(1));
        Check.answers("31 row 1", () -> desk.circuit(0, 1), 3);
        Check.answers("31 row 2", () -> desk.circuit(0, 2), -1);
        Check.answers("31 row 0 modulo 2", () -> desk.circuit(2, 0), 1);
        Check.answers("31 row 1 modulo 2", () -> desk.circuit(2, 1), -1);
        Check.answers("31 the least", () -> plane.circuit(0, 2), 7);
        Check.answers("31 the least", () -> plane.circuit(0, 3), 11);
        Check.isOutside("31 row", () -> desk.circuit(0, 3));
        Check.isOutside("31 row first", () -> desk.circuit(1, -1));
        Check.isBadValue("31 modulus", () -> desk.circuit(1, 0));
    }

    private static void written() {
        RankDesk desk = Desks.of("matrix 4 2;row 3,0;row 6,0;row 0,5;row 1,1;");
        Check.same("61 of row 3", Desks.written(desk, desk.writeRelation(3)), "-5*r0 -3*r2 15*r3");
        Check.same("61 of row 1", Desks.written(desk, desk.writeRelation(1)), "-2*r0 1*r1");
        Check.isOutside("61 content is replaced", () -> desk.outputByte(10));
        Check.isMissing("61 in the profile", () -> desk.writeRelation(0));
        Check.isOutside("61 row", () -> desk.writeRelation(4));
        Check.isOutside("61 row", () -> desk.writeRelation(-1));
        Check.answers("61 content stays", () -> desk.outputByte(9), '1');
        RankDesk zero = new RankDesk();
        Check.same("61 of a row of zeros", Desks.written(zero, zero.writeRelation(0)), "1*r0");
    }

    public static void main(String[] args) {
        rowRelations();
        columnRelations();
        relationsModulo();
        weights();
        rowSets();
        extensions();
        circuits();
        written();
        Check.end();
    }
}
