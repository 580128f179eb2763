/** Promises 35 to 41, 50 to 55 and 62: the vector, claims, relations, flaws. */
public final class CertificatesTest {
    private static final String THREE = "matrix 3 3;row 2,4,6;row 1,2,3;row 3,1,-5;";

    private static void vectors() {
        RankDesk desk = Desks.of(THREE);
        Check.answers("35 at first", () -> desk.vector(2), 0);
        Check.answers("50 previous", () -> desk.setVector(0, -9999), 0);
        Check.answers("50 previous", () -> desk.setVector(0, 9999), -9999);
        Check.answers("50 another row", () -> desk.setVector(2, 7), 0);
        Check.answers("35 row 0", () -> desk.vector(0), 9999);
        Check.answers("35 row 2", () -> desk.vector(2), 7);
        Check.isOutside("35 row", () -> desk.vector(3));
        Check.isOutside("35 row", () -> desk.vector(-1));
        Check.isBadValue("50 above", () -> desk.setVector(0, 10000));
        Check.isBadValue("50 below", () -> desk.setVector(0, -10000));
        Check.isOutside("50 row first", () -> desk.setVector(3, 10000));
        Check.isOutside("50 row", () -> desk.setVector(-1, 0));
        Check.answers("36 column 0", () -> desk.product(0), 9999 * 2 + 7 * 3);
        Check.answers("36 column 2", () -> desk.product(2), 9999 * 6 - 7 * 5);
        Check.isOutside("36 column", () -> desk.product(3));
        Check.isOutside("36 column", () -> desk.product(-1));
        desk.swapRows(0, 1);
        Check.answers("35 stays when rows are swapped", () -> desk.vector(0), 9999);
    }

    private static void claims() {
        RankDesk desk = Desks.of(THREE);
        Check.answers("37 no claim", () -> desk.claimed(0), -1);
        Check.answers("37 no claim", () -> desk.claimed(1), -1);
        Check.isBadValue("37 what", () -> desk.claimed(2));
        Check.isBadValue("37 what", () -> desk.claimed(-1));
        Check.answers("51 not 0", () -> desk.claim(5, 3), 1);
        Check.answers("37 rows", () -> desk.claimed(0), 5);
        Check.answers("37 columns", () -> desk.claimed(1), 3);
        Check.isBadValue("51 sizes", () -> desk.claim(1, 3));
        Check.isBadValue("51 rows", () -> desk.claim(8, 1));
        Check.isBadValue("51 columns", () -> desk.claim(1, 8));
        Check.answers("37 stays", () -> desk.claimed(0), 5);
        Check.answers("51 zero", () -> desk.claim(3, 6), 0);
        Check.answers("37 in place of it", () -> desk.claimed(1), 6);
        Check.answers("51 empty", () -> desk.claim(0, 0), 1);
        Check.answers("37 empty", () -> desk.claimed(0), 0);
    }

    private static void relations() {
        RankDesk desk = Desks.of(THREE);
        Check.isBadState("52 zeros", desk::addRelation);
        desk.setVector(0, -1);
        desk.setVector(1, 2);
        Check.answers("52 first", desk::addRelation, 1);
        desk.setVector(2, 5);
        Check.answers("52 second", desk::addRelation, 2);
        Check.answers("38 of 0", () -> desk.relationOf(0, 2), 0);
        Check.answers("38 of 1", () -> desk.relationOf(1, 2), 5);
        Check.answers("38 of 1", () -> desk.relationOf(1, 0), -1);
        Check.isOutside("38 relation", () -> desk.relationOf(2, 0));
        Check.isOutside("38 relation", () -> desk.relationOf(-1, 0));
        Check.isOutside("38 row", () -> desk.relationOf(0, 3));
        Check.isOutside("38 row", () -> desk.relationOf(0, -1));
        Check.answers("39 of 0", () -> desk.head(0), 1);
        Check.answers("39 of 1", () -> desk.head(1), 2);
        Check.isOutside("39 relation", () -> desk.head(2));
        Check.isOutside("39 relation", () -> desk.head(-1));
        Check.isTrue("40 of 0", desk.holds(0));
        Check.isTrue("40 of 1", !desk.holds(1));
        Check.isOutside("40 relation", () -> desk.holds(2) ? 1 : 0);
        Check.isOutside("40 relation", () -> desk.holds(-1) ? 1 : 0);
        Check.isOutside("53 relation", () -> desk.dropRelation(2));
        Check.isOutside("53 relation", () -> desk.dropRelation(-1));
        for (int i = 3; i <= 6; i++) {
            desk.setVector(1, i);
            Check.same("52 more", desk.addRelation(), i);
        }
        Check.isBadState("52 a seventh", desk::addRelation);
        Check.answers("53 the first", () -> desk.dropRelation(0), 5);
        Check.answers("53 numbers get less", () -> desk.relationOf(0, 2), 5);
        Check.answers("53 the last", () -> desk.dropRelation(4), 4);
        Check.answers("53 the middle", () -> desk.dropRelation(1), 3);
        Check.answers("53 behind it", () -> desk.relationOf(1, 1), 4);
        Check.answers("53 behind it", () -> desk.relationOf(2, 1), 5);
        Check.isOutside("53 dropped", () -> desk.head(3));
    }

    private static void relationsStay() {
        RankDesk desk = Desks.of(THREE);
        desk.setVector(0, -1);
        desk.setVector(1, 2);
        desk.addRelation();
        desk.swapRows(0, 1);
        Check.answers("38 stays", () -> desk.relationOf(0, 0), -1);
        Check.isTrue("40 of the new matrix", !desk.holds(0));
        desk.swapRows(0, 1);
        desk.swapColumns(0, 2);
        Check.isTrue("40 of the new matrix", desk.holds(0));
        desk.transpose();
        Check.answers("47 no relations", () -> desk.count(4), 0);
        Check.answers("47 no vector", () -> desk.vector(0), 0);
    }

    private static void firstColumnsAndRows() {
        RankDesk desk = Desks.of("matrix 2 2;row 1,0;row 2,0;");
        desk.setVector(0, 1);
        desk.addRelation();
        Check.isTrue("40 column 0", !desk.holds(0));
        Check.answers("39 row 0", () -> desk.head(0), 0);
        desk.setVector(0, 4);
        desk.addRelation();
        desk.dropRelation(0);
        Check.answers("53 row 0", () -> desk.relationOf(0, 0), 4);
    }

    private static void twinHeads() {
        RankDesk desk = Desks.of("matrix 3 1;row 1;");
        desk.claim(1, 1);
        for (int value : new int[] {1, 2, 1}) {
            desk.setVector(1, value == 1 ? 1 : 0);
            desk.setVector(2, value == 2 ? 1 : 0);
            desk.addRelation();
        }
        Check.answers("41 heads of the first and the last", desk::flaw, 4);
        desk.dropRelation(2);
        Check.answers("41 none", desk::flaw, 0);
    }

    private static void flaws() {
        RankDesk desk = Desks.of(THREE);
        Check.answers("41 no claim", desk::flaw, 1);
        desk.setVector(0, 1);
        desk.addRelation();
        Check.answers("41 no claim first", desk::flaw, 1);
        desk.claim(3, 3);
        Check.answers("41 minor", desk::flaw, 2);
        desk.claim(5, 3);
        Check.answers("41 relation", desk::flaw, 3);
        desk.dropRelation(0);
        Check.answers("41 sizes", desk::flaw, 5);
        desk.setVector(0, -1);
        desk.setVector(1, 2);
        desk.addRelation();
        Check.answers("41 none", desk::flaw, 0);
        desk.addRelation();
        Check.answers("41 heads", desk::flaw, 4);
        desk.setVector(0, 0);
        desk.addRelation();
        Check.answers("41 relation first", desk::flaw, 3);
        desk.dropRelation(2);
        desk.dropRelation(1);
        desk.claim(1, 2);
        Check.answers("41 a claim that is less", desk::flaw, 5);
        desk.claim(0, 0);
        Check.answers("41 an empty claim", desk::flaw, 5);
        RankDesk zeros = new RankDesk();
        zeros.setVector(0, 3);
        zeros.addRelation();
        Check.answers("38 a new desk", () -> zeros.relationOf(0, 0), 3);
        Check.answers("39 a new desk", () -> zeros.head(0), 0);
        Check.same("62 a new desk", Desks.certificate(zeros), "\n3\n");
        zeros.dropRelation(0);
        zeros.addRelation();
        zeros.claim(0, 0);
        Check.answers("41 an empty claim", zeros::flaw, 0);
    }

    private static void certified() {
        RankDesk desk = Desks.of("matrix 4 2;row 3,0;row 6,0;row 0,5;row 1,1;");
        desk.setVector(3, 8);
        desk.addRelation();
        desk.claim(2, 2);
        Check.answers("54 rank", desk::certify, 2);
        Check.answers("54 no flaw", desk::flaw, 0);
        Check.same("62 certificate", Desks.certificate(desk), "rows 0 2 columns 0 1\n-2 1 0 0\n-5 0 -3 15\n");
        Check.answers("54 the vector stays", () -> desk.vector(3), 8);
        Check.answers("55 relations", desk::clearCertificate, 2);
        Check.answers("55 no claim", () -> desk.claimed(0), -1);
        Check.answers("55 no relations", () -> desk.count(4), 0);
        Check.answers("55 no vector", () -> desk.vector(3), 0);
        Check.answers("55 none", desk::clearCertificate, 0);
        Check.same("62 no claim", Desks.certificate(desk), "\n");
        desk.setVector(1, -4);
        desk.addRelation();
        Check.same("62 a relation without a claim", Desks.certificate(desk), "\n0 -4 0 0\n");
        RankDesk full = Desks.of("matrix 2 3;row 0,1,2;row 0,2,1;");
        Check.answers("54 full rank", full::certify, 2);
        Check.same("62 no relations", Desks.certificate(full), "rows 0 1 columns 1 2\n");
        RankDesk zeros = Desks.of("matrix 6 2;");
        Check.answers("54 zeros", zeros::certify, 0);
        Check.answers("54 zeros", zeros::flaw, 0);
        Check.same("62 zeros", Desks.certificate(zeros), "rows columns\n1 0 0 0 0 0\n0 1 0 0 0 0\n0 0 1 0 0 0\n"
                + "0 0 0 1 0 0\n0 0 0 0 1 0\n0 0 0 0 0 1\n");
    }

    /** The numbers of relations may be as great as minors of 5 rows. */
    private static void greatRelations() {
        RankDesk desk = Desks.of("matrix 6 5;row 20,19,-18,17,16;row -15,20,19,18,-17;row 16,-15,20,-19,18;"
                + "row 17,16,15,20,-19;row -18,17,-16,15,20;row 19,-18,17,16,-20;");
        Check.answers("54 rank", desk::certify, 5);
        Check.answers("54 no flaw", desk::flaw, 0);
        Check.isTrue("22 great", desk.weight(5) > 1_000_000);
        String written = Desks.certificate(desk);
        StringBuilder due = new StringBuilder("rows 0 1 2 3 4 columns 0 1 2 3 4\n");
        for (int k = 0; k < 6; k++) {
            due.append(desk.relation(5, k)).append(k < 5 ? ' ' : '\n');
        }
        Check.same("62 great", written, due);
    }

    public static void main(String[] args) {
        vectors();
        claims();
        relations();
        relationsStay();
        firstColumnsAndRows();
        twinHeads();
        flaws();
        certified();
        greatRelations();
        Check.end();
    }
}
