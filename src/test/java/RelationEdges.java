/** The edges of relations and of sets of rows: section RANKS, promises 19 to 22, 24 to 28, 30, 31 and 61. */
final class RelationEdges {
    /** Rows 1, t, t * t for t from -2 to 3: each 3 of them are independent, modulo 5 the first is the last. */
    static final String CURVE = "matrix 6 3;row 1,-2,4;row 1,-1,1;row 1,0,0;row 1,1,1;row 1,2,4;row 1,3,9;";
    /** The last row is a sum of parts of the others, and no two of these have a common divisor. */
    static final String BIG = "matrix 6 5;row 20,0,0,0,0;row 0,19,0,0,0;row 0,0,17,0,0;row 0,0,0,13,0;row 0,0,0,0,11;"
            + "row 1,1,1,1,1;";
    private static final String CURVE_TURNED = "matrix 3 6;row 1,1,1,1,1,1;row -2,-1,0,1,2,3;row 4,1,0,1,4,9;";
    private static final String ZEROS = "matrix 6 6;";
    private static final String TALL = RankEdges.TALL;
    private static final String GREAT = RankEdges.GREAT;

    private RelationEdges() {
    }

    private static void isRelation(String text, int row, long... due) {
        for (int k = 0; k < due.length; k++) {
            int number = k;
            Edge.answers(Edge.text(text), desk -> desk.relation(row, number), due[k]);
        }
    }

    private static void isColumnRelation(String text, int column, long... due) {
        for (int k = 0; k < due.length; k++) {
            int number = k;
            Edge.answers(Edge.text(text), desk -> desk.columnRelation(column, number), due[k]);
        }
    }

    private static void isRelationMod(String text, int m, int row, long... due) {
        for (int k = 0; k < due.length; k++) {
            int number = k;
            Edge.answers(Edge.text(text), desk -> desk.relationMod(m, row, number), due[k]);
        }
    }

    private static void relations() {
        Edge.says("RANKS", "of which x of this row is above 0");
        isRelation("matrix 2 1;row 2;row 2;", 1, -1, 1);
        isRelation("matrix 2 1;row 2;row -2;", 1, 1, 1);
        isRelation("matrix 2 1;row -2;row 2;", 1, 1, 1);
        isRelation("matrix 2 1;row -2;row -2;", 1, -1, 1);
        Edge.says("RANKS", "x(k) is 0 for other rows that are not in the row profile and for all rows behind it");
        isRelation(CURVE, 3, -1, 3, -3, 1, 0, 0);
        isRelation(CURVE, 4, -3, 8, -6, 0, 1, 0);
        isRelation(CURVE, 5, -6, 15, -10, 0, 0, 1);
        isRelation("matrix 3 2;row 1,0;row 2,0;row 0,1;", 1, -2, 1, 0);
        isRelation(ZEROS, 0, 1, 0, 0, 0, 0, 0);
        isRelation(ZEROS, 5, 0, 0, 0, 0, 0, 1);
        isRelation("matrix 2 1;row 1;row 0;", 1, 0, 1);
        Edge.says("RANKS", "their greatest common divisor is 1");
        isRelation("matrix 2 1;row 4;row 6;", 1, -3, 2);
        isRelation("matrix 2 1;row 20;row -20;", 1, 1, 1);
        isRelation("matrix 2 1;row 19;row 20;", 1, -20, 19);
        isRelation(TALL, 3, -5, 0, -3, 15);
        Edge.says("RANKS", "(There is just one.)");
        isRelation(BIG, 5, -46_189, -48_620, -54_340, -71_060, -83_980, 923_780);
        Edge.says("19", "Returns x(k) of the relation of the row.");
        Edge.asks(Edge::full, desk -> desk.relation(1, 0), -1);
        Edge.asks(Edge::full, desk -> desk.relation(1, 1), 2);
        Edge.asks(RankDesk::new, desk -> desk.relation(0, 0), 1);
        Edge.says("19", "Throws `IndexOutOfBoundsException` if there is no such row");
        Edge.numbered(Edge.text("matrix 4 2;"), 4, (desk, row) -> desk.relation(row, 3), 0, 1);
        Edge.numbered(Edge.text(TALL), 4, (desk, k) -> desk.relation(3, k), -5, 15);
        Edge.numbered(Edge.text("matrix 2 4;"), 2, (desk, row) -> desk.relation(row, row), 1, 1);
        Edge.says("19", "Throws `NoSuchElementException` if the row is in the row profile");
        Edge.answers(Edge.text(TALL), desk -> desk.relation(1, 1), 1);
        for (int row : new int[] {0, 2}) {
            Edge.refuses(Edge.text(TALL), desk -> desk.relation(row, row), Edge.MISSING);
            Edge.refuses(Edge::full, desk -> desk.relation(row, 0), Edge.MISSING);
        }
        for (int row = 0; row < 6; row++) {
            int number = row;
            Edge.refuses(Edge.text(GREAT), desk -> desk.relation(number, 0), Edge.MISSING);
        }
    }

    private static void columnRelations() {
        Edge.says("RANKS", "A column that is not in the column profile has one likewise.");
        isColumnRelation(CURVE_TURNED, 3, -1, 3, -3, 1, 0, 0);
        isColumnRelation(CURVE_TURNED, 4, -3, 8, -6, 0, 1, 0);
        isColumnRelation(CURVE_TURNED, 5, -6, 15, -10, 0, 0, 1);
        isColumnRelation("matrix 1 2;row -2,2;", 1, 1, 1);
        isColumnRelation("matrix 1 6;row 0,4,0,6,0,0;", 3, 0, -3, 0, 2, 0, 0);
        isColumnRelation("matrix 1 6;row 0,4,0,6,0,0;", 0, 1, 0, 0, 0, 0, 0);
        Edge.says("20", "Returns x(k) of the relation of the column.");
        Edge.asks(Edge::full, desk -> desk.columnRelation(2, 0), 13);
        Edge.asks(Edge::full, desk -> desk.columnRelation(2, 2), 5);
        Edge.says("20", "Throws `IndexOutOfBoundsException` if there is no such column");
        Edge.numbered(Edge.text("matrix 2 4;"), 4, (desk, column) -> desk.columnRelation(column, 3), 0, 1);
        Edge.numbered(Edge.text("matrix 1 4;row 2,0,0,3;"), 4, (desk, k) -> desk.columnRelation(3, k), -3, 2);
        Edge.numbered(Edge.text("matrix 4 2;"), 2, (desk, column) -> desk.columnRelation(column, column), 1, 1);
        Edge.says("20", "Throws `NoSuchElementException` if the column is in the column profile");
        Edge.refuses(Edge::full, desk -> desk.columnRelation(0, 0), Edge.MISSING);
        Edge.refuses(Edge::full, desk -> desk.columnRelation(1, 2), Edge.MISSING);
        Edge.refuses(Edge.text(GREAT), desk -> desk.columnRelation(5, 5), Edge.MISSING);
    }

    private static void relationsModulo() {
        Edge.says("RANKS", "The relation of a row modulo p is told by numbers from 0 to p - 1, with the row profile modulo p "
                + "and 1 for the row itself.");
        for (int p : Edge.PRIMES) {
            isRelationMod("matrix 2 1;row 1;row 1;", p, 1, p - 1, 1);
            isRelationMod("matrix 2 1;row 1;row -1;", p, 1, 1, 1);
            isRelationMod("matrix 2 1;row 1;row 0;", p, 1, 0, 1);
            isRelationMod("matrix 2 1;row 0;row 1;", p, 0, 1, 0);
        }
        isRelationMod(CURVE, 5, 3, 4, 3, 2, 1, 0, 0);
        isRelationMod(CURVE, 5, 4, 2, 3, 4, 0, 1, 0);
        isRelationMod(CURVE, 5, 5, 4, 0, 0, 0, 0, 1);
        isRelationMod(BIG, 7, 5, 1, 4, 2, 1, 5, 1);
        isRelationMod(Edge.THREE, 2, 0, 1, 0, 0);
        Edge.says("21", "Returns x(k) of the relation of the row modulo m.");
        Edge.asks(Edge::full, desk -> desk.relationMod(5, 1, 0), 2);
        Edge.asks(Edge::full, desk -> desk.relationMod(97, 1, 0), 48);
        Edge.says("21", "- `m`: a prime number, 2 to 97");
        Edge.moduli(Edge.text(ZEROS), false, (desk, m) -> desk.relationMod(m, 0, 0));
        Edge.says("21", "Throws `IllegalArgumentException` if m is 0 or no modulus");
        Edge.moduli(RankDesk::new, false, (desk, m) -> desk.relationMod(m, 0, 0));
        Edge.refuses(Edge::full, desk -> desk.relationMod(0, 1, 0), Edge.BAD_VALUE);
        Edge.says("21", "Throws `IndexOutOfBoundsException` if there is no such row");
        Edge.numbered(Edge.text("matrix 4 2;"), 4, (desk, row) -> desk.relationMod(3, row, 3), 0, 1);
        Edge.numbered(Edge.text("matrix 4 1;row 1;row 0;row 0;row 1;"), 4, (desk, k) -> desk.relationMod(3, 3, k), 2, 1);
        Edge.says("21", "Throws `NoSuchElementException` if the row is in the row profile modulo m");
        Edge.refuses(Edge::full, desk -> desk.relationMod(2, 1, 0), Edge.MISSING);
        Edge.refuses(Edge::full, desk -> desk.relationMod(2, 2, 0), Edge.MISSING);
        Edge.refuses(Edge::full, desk -> desk.relationMod(5, 0, 0), Edge.MISSING);
        Edge.answers(Edge::full, desk -> desk.relationMod(2, 0, 0), 1);
        Edge.answers(Edge::full, desk -> desk.relationMod(5, 1, 2), 0);
        // Row 1 is in the row profile over the integers, but not modulo 11.
        Edge.answers(Edge.text("matrix 2 2;row 3,1;row 1,4;"), desk -> desk.relationMod(11, 1, 0), 7);
        Edge.refuses(Edge.text("matrix 2 2;row 3,1;row 1,4;"), desk -> desk.relationMod(7, 1, 0), Edge.MISSING);
    }

    private static void weights() {
        Edge.says("22", "Returns the greatest amount of a number of the relation of the row.");
        Edge.asks(Edge::full, desk -> desk.weight(1), 2);
        Edge.asks(Edge.text(CURVE), desk -> desk.weight(5), 15);
        Edge.asks(Edge.text(CURVE), desk -> desk.weight(3), 3);
        Edge.asks(Edge.text(BIG), desk -> desk.weight(5), 923_780);
        Edge.asks(Edge.text("matrix 2 1;row 1;row 20;"), desk -> desk.weight(1), 20);
        Edge.asks(Edge.text("matrix 2 1;row 1;row -20;"), desk -> desk.weight(1), 20);
        Edge.asks(RankDesk::new, desk -> desk.weight(0), 1);
        Edge.says("22", "Throws `IndexOutOfBoundsException` if there is no such row");
        Edge.numbered(Edge.text("matrix 4 2;"), 4, RankDesk::weight, 1, 1);
        Edge.numbered(Edge.text("matrix 2 4;"), 2, RankDesk::weight, 1, 1);
        Edge.says("22", "Throws `NoSuchElementException` if the row is in the row profile");
        Edge.answers(Edge.text(TALL), desk -> desk.weight(1), 2);
        Edge.refuses(Edge.text(TALL), desk -> desk.weight(0), Edge.MISSING);
        Edge.refuses(Edge.text(TALL), desk -> desk.weight(2), Edge.MISSING);
        Edge.refuses(Edge::full, desk -> desk.weight(2), Edge.MISSING);
    }

    private static int is(boolean value) {
        return value ? 1 : 0;
    }

    private static void needed() {
        Edge.says("24", "Returns true if the rank is less without this row.");
        Edge.asks(Edge::full, desk -> is(desk.isNeeded(0, 0)), 0);
        Edge.asks(Edge::full, desk -> is(desk.isNeeded(0, 2)), 1);
        Edge.asks(Edge::full, desk -> is(desk.isNeeded(2, 1)), 1);
        Edge.asks(RankDesk::new, desk -> is(desk.isNeeded(0, 0)), 0);
        Edge.answers(Edge.text("matrix 1 1;row 1;"), desk -> is(desk.isNeeded(0, 0)), 1);
        Edge.answers(Edge.text("matrix 2 1;row 1;row 0;"), desk -> is(desk.isNeeded(0, 0)), 1);
        Edge.answers(Edge.text("matrix 2 1;row 1;row 0;"), desk -> is(desk.isNeeded(0, 1)), 0);
        Edge.answers(Edge.text("matrix 2 1;row 1;row 3;"), desk -> is(desk.isNeeded(0, 0)), 0);
        Edge.answers(Edge.text("matrix 2 1;row 1;row 3;"), desk -> is(desk.isNeeded(3, 0)), 1);
        Edge.answers(Edge.text(GREAT), desk -> is(desk.isNeeded(0, 5)), 1);
        Edge.answers(Edge.text(GREAT), desk -> is(desk.isNeeded(5, 5)), 0);
        Edge.says("24", "Throws `IndexOutOfBoundsException` if there is no such row");
        Edge.numbered(Edge::full, 3, (desk, row) -> is(desk.isNeeded(0, row)), 0, 1);
        Edge.numbered(Edge.text(RankEdges.WIDE), 2, (desk, row) -> is(desk.isNeeded(0, row)), 1, 1);
        Edge.says("24", "Throws `IllegalArgumentException` if m is no modulus");
        Edge.moduli(Edge::full, true, (desk, m) -> is(desk.isNeeded(m, 0)));
        Edge.says("25", "Returns true if the rank of these rows (with all columns) is their number.");
        Edge.asks(Edge::full, desk -> is(desk.areIndependent(0, 5)), 1);
        Edge.asks(Edge::full, desk -> is(desk.areIndependent(0, 3)), 0);
        Edge.asks(RankDesk::new, desk -> is(desk.areIndependent(0, 0)), 1);
        Edge.answers(RankDesk::new, desk -> is(desk.areIndependent(0, 1)), 0);
        Edge.answers(Edge.text(CURVE), desk -> is(desk.areIndependent(0, 56)), 1);
        Edge.answers(Edge.text(CURVE), desk -> is(desk.areIndependent(0, 60)), 0);
        Edge.answers(Edge.text(CURVE), desk -> is(desk.areIndependent(5, 33)), 0);
        Edge.answers(Edge.text("matrix 1 2;row 0,1;"), desk -> is(desk.areIndependent(0, 1)), 1);
        Edge.says("25", "Throws `IllegalArgumentException` if m is no modulus, or a set has a bit that stands for no row or "
                + "column");
        Edge.moduli(Edge::full, true, (desk, m) -> is(desk.areIndependent(m, 1)));
        Edge.sets(Edge.text(TALL), 4, (desk, rows) -> is(desk.areIndependent(0, rows)), 1, 0);
        Edge.sets(Edge.text(RankEdges.WIDE), 2, (desk, rows) -> is(desk.areIndependent(0, rows)), 1, 1);
        Edge.sets(Edge.text(GREAT), 6, (desk, rows) -> is(desk.areIndependent(0, rows)), 1, 1);
    }

    private static void bases() {
        Edge.says("26", "Returns how many sets of rows, as many as the rank, are independent.");
        Edge.asks(Edge::full, desk -> desk.bases(0), 2);
        Edge.asks(RankDesk::new, desk -> desk.bases(0), 1);
        Edge.answers(Edge.text(ZEROS), desk -> desk.bases(97), 1);
        Edge.answers(Edge.text(GREAT), desk -> desk.bases(0), 1);
        Edge.answers(Edge.text(GREAT), desk -> desk.bases(2), 1);
        Edge.answers(Edge.text(CURVE), desk -> desk.bases(0), 20);
        Edge.answers(Edge.text(CURVE), desk -> desk.bases(5), 16);
        Edge.answers(Edge.text(CURVE), desk -> desk.bases(2), 9);
        Edge.answers(Edge.text("matrix 6 1;" + "row 1;".repeat(6)), desk -> desk.bases(0), 6);
        Edge.says("26", "Throws `IllegalArgumentException` if m is no modulus");
        Edge.moduli(Edge::full, true, RankDesk::bases);
    }

    private static void extensions() {
        Edge.says("27", "Returns the set of the rows by which it can be made larger, one at a time, so that it stays "
                + "independent.");
        Edge.asks(Edge::full, desk -> desk.extensions(0, 0), 7);
        Edge.asks(Edge::full, desk -> desk.extensions(2, 0), 6);
        Edge.asks(Edge::full, desk -> desk.extensions(0, 1), 4);
        Edge.asks(Edge::full, desk -> desk.extensions(0, 6), 0);
        Edge.answers(RankDesk::new, desk -> desk.extensions(0, 0), 0);
        Edge.answers(Edge.text("matrix 1 1;row 1;"), desk -> desk.extensions(0, 0), 1);
        Edge.answers(Edge.text("matrix 1 1;row 1;"), desk -> desk.extensions(0, 1), 0);
        Edge.answers(Edge.text(CURVE), desk -> desk.extensions(0, 33), 30);
        Edge.answers(Edge.text(CURVE), desk -> desk.extensions(5, 1), 30);
        Edge.answers(Edge.text(CURVE), desk -> desk.extensions(0, 7), 0);
        Edge.says("27", "Throws `IllegalArgumentException` if m is no modulus, or the set has a bit that stands for no row, or "
                + "is not independent");
        Edge.moduli(Edge::full, true, (desk, m) -> desk.extensions(m, 0));
        Edge.sets(Edge.text(GREAT), 6, (desk, rows) -> desk.extensions(0, rows), 63, 0);
        Edge.sets(Edge.text(RankEdges.WIDE), 2, (desk, rows) -> desk.extensions(0, rows), 3, 0);
        for (int rows : new int[] {3, 7, 8, 9}) {
            Edge.refuses(Edge::full, desk -> desk.extensions(0, rows), Edge.BAD_VALUE);
        }
        Edge.refuses(Edge::full, desk -> desk.extensions(2, 1), Edge.BAD_VALUE);
        Edge.answers(Edge::full, desk -> desk.extensions(2, 2), 4);
        Edge.refuses(Edge.text(CURVE), desk -> desk.extensions(5, 33), Edge.BAD_VALUE);
        Edge.refuses(Edge.text(CURVE), desk -> desk.extensions(0, 15), Edge.BAD_VALUE);
        Edge.refuses(RankDesk::new, desk -> desk.extensions(0, 1), Edge.BAD_VALUE);
    }

    private static void closures() {
        Edge.says("28", "Returns the set of all rows that are sums of multiples of these rows (modulo m, or by fractions).");
        Edge.asks(Edge::full, desk -> desk.closure(0, 1), 3);
        Edge.asks(Edge::full, desk -> desk.closure(2, 0), 1);
        Edge.answers(RankDesk::new, desk -> desk.closure(0, 0), 1);
        Edge.answers(Edge.text("matrix 1 1;row 1;"), desk -> desk.closure(0, 0), 0);
        Edge.answers(Edge.text("matrix 1 1;row 1;"), desk -> desk.closure(0, 1), 1);
        String three = "matrix 3 1;row 2;row 1;row 3;";
        Edge.answers(Edge.text(three), desk -> desk.closure(0, 1), 7);
        Edge.answers(Edge.text(three), desk -> desk.closure(2, 1), 1);
        Edge.answers(Edge.text(three), desk -> desk.closure(2, 2), 7);
        Edge.answers(Edge.text(three), desk -> desk.closure(3, 4), 4);
        Edge.answers(Edge.text(three), desk -> desk.closure(3, 0), 4);
        Edge.answers(Edge.text(CURVE), desk -> desk.closure(0, 48), 48);
        Edge.answers(Edge.text(CURVE), desk -> desk.closure(0, 56), 63);
        Edge.answers(Edge.text(CURVE), desk -> desk.closure(5, 33), 33);
        Edge.says("28", "Throws `IllegalArgumentException` if m is no modulus, or a set has a bit that stands for no row or "
                + "column");
        Edge.moduli(Edge::full, true, (desk, m) -> desk.closure(m, 1));
        Edge.sets(Edge.text(TALL), 4, (desk, rows) -> desk.closure(0, rows), 0, 15);
        Edge.sets(Edge.text(RankEdges.WIDE), 2, (desk, rows) -> desk.closure(0, rows), 0, 3);
        Edge.sets(Edge.text(ZEROS), 6, (desk, rows) -> desk.closure(0, rows), 63, 63);
    }

    private static void circuits() {
        Edge.says("30", "Returns how many sets of rows are circuits: they are not independent, but they are without any one "
                + "of their rows.");
        Edge.asks(Edge::full, desk -> desk.circuits(0), 1);
        Edge.asks(RankDesk::new, desk -> desk.circuits(0), 1);
        Edge.answers(Edge.text("matrix 1 1;row 1;"), desk -> desk.circuits(0), 0);
        Edge.answers(Edge.text(GREAT), desk -> desk.circuits(0), 0);
        Edge.answers(Edge.text(GREAT), desk -> desk.circuits(2), 6);
        Edge.answers(Edge.text(CURVE), desk -> desk.circuits(0), 15);
        Edge.answers(Edge.text(CURVE), desk -> desk.circuits(5), 10);
        Edge.answers(Edge.text(CURVE), desk -> desk.circuits(2), 6);
        Edge.answers(Edge.text(BIG), desk -> desk.circuits(0), 1);
        Edge.says("30", "Throws `IllegalArgumentException` if m is no modulus");
        Edge.moduli(Edge::full, true, RankDesk::circuits);
        Edge.says("31", "Returns of the circuits with this row the one that is the least number as a bit mask; NONE if there "
                + "is none.");
        Edge.asks(Edge::full, desk -> desk.circuit(0, 0), 3);
        Edge.asks(Edge::full, desk -> desk.circuit(0, 2), -1);
        Edge.asks(RankDesk::new, desk -> desk.circuit(0, 0), 1);
        Edge.answers(Edge.text(CURVE), desk -> desk.circuit(0, 0), 15);
        Edge.answers(Edge.text(CURVE), desk -> desk.circuit(0, 5), 39);
        Edge.answers(Edge.text(CURVE), desk -> desk.circuit(5, 0), 15);
        Edge.answers(Edge.text(CURVE), desk -> desk.circuit(5, 5), 33);
        Edge.answers(Edge.text(BIG), desk -> desk.circuit(0, 0), 63);
        Edge.answers(Edge.text(ZEROS), desk -> desk.circuit(0, 5), 32);
        Edge.answers(Edge.text(GREAT), desk -> desk.circuit(0, 5), -1);
        Edge.says("31", "Throws `IndexOutOfBoundsException` if there is no such row");
        Edge.numbered(Edge::full, 3, (desk, row) -> desk.circuit(0, row), 3, -1);
        Edge.numbered(Edge.text("matrix 2 4;"), 2, (desk, row) -> desk.circuit(0, row), 1, 2);
        Edge.says("31", "Throws `IllegalArgumentException` if m is no modulus");
        Edge.moduli(Edge::full, true, (desk, m) -> desk.circuit(m, 0));
    }

    private static void written(String text, int row, String due) {
        RankDesk desk = Desks.of(text);
        desk.writeMatrix();
        Edge.same(Desks.written(desk, desk.writeRelation(row)), due);
        Edge.same(Check.told(() -> desk.outputByte(due.length())), Edge.OUTSIDE);
    }

    private static void writing() {
        Edge.says("61", "for each x(k) that is not 0, in ascending order, the number, the byte *, the letter r and k; "
                + "separated by spaces");
        written(ZEROS, 0, "1*r0");
        written(ZEROS, 5, "1*r5");
        written("matrix 2 1;row 2;row -2;", 1, "1*r0 1*r1");
        written(TALL, 3, "-5*r0 -3*r2 15*r3");
        written(CURVE, 4, "-3*r0 8*r1 -6*r2 1*r4");
        written(BIG, 5, "-46189*r0 -48620*r1 -54340*r2 -71060*r3 -83980*r4 923780*r5");
        Edge.says("61", "Returns the length of the output.");
        Edge.leaves(Edge::full, desk -> desk.writeRelation(1), "10", View.OUTPUT);
        Edge.says("61", "Throws `IndexOutOfBoundsException` if there is no such row");
        Edge.numbered(Edge.text("matrix 4 2;"), 4, RankDesk::writeRelation, 4, 4);
        Edge.refuses(Edge::full, desk -> desk.writeRelation(3), Edge.OUTSIDE);
        Edge.refuses(Edge::full, desk -> desk.writeRelation(-1), Edge.OUTSIDE);
        Edge.says("61", "Throws `NoSuchElementException` if the row is in the row profile");
        Edge.refuses(Edge::full, desk -> desk.writeRelation(0), Edge.MISSING);
        Edge.refuses(Edge::full, desk -> desk.writeRelation(2), Edge.MISSING);
        Edge.refuses(Edge.text(TALL), desk -> desk.writeRelation(2), Edge.MISSING);
    }

    static void run() {
        relations();
        columnRelations();
        relationsModulo();
        weights();
        needed();
        bases();
        extensions();
        closures();
        circuits();
        writing();
    }
}
