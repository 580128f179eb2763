/** The edges of the section RANKS, but for relations, and of the promises 10 to 18, 23, 29 and 32. */
final class RankEdges {
    static final String WIDE = "matrix 2 4;row 1,2,3,4;row 5,6,7,-8;prime 3;";
    static final String TALL = "matrix 4 2;row 3,0;row 6,0;row 0,5;row 1,1;prime 3;";
    static final String CYCLE = "matrix 3 3;row 0,2,0;row 0,0,3;row 5,0,0;";
    static final String PRIME_DIAGONAL = "matrix 6 6;row 2,0,0,0,0,0;row 0,3,0,0,0,0;row 0,0,5,0,0,0;row 0,0,0,7,0,0;"
            + "row 0,0,0,0,11,0;row 0,0,0,0,0,13;prime 13;prime 11;prime 7;prime 5;prime 3;prime 2;";
    /** Of 20 and -20: blocks B, B; B, -B with the minor -32000 of B, so that the minor is -8 times its square. */
    static final String GREAT = "matrix 6 6;row 20,20,-20,20,20,-20;row 20,-20,20,20,-20,20;row -20,20,20,-20,20,20;"
            + "row 20,20,-20,-20,-20,20;row 20,-20,20,-20,20,-20;row -20,20,20,20,-20,-20;";

    private RankEdges() {
    }

    /** Two rows whose minor is this number, 0 to 99; one entry is 1. */
    static String withMinor(int minor) {
        return "matrix 2 2;row 10,-" + minor % 10 + ";row 1," + minor / 10 + ";";
    }

    static String withEntry(int entry) {
        return "matrix 1 1;row " + entry + ";";
    }

    private static void ranks() {
        Edge.says("RANKS", "Its rank is the size of its greatest minor that is not 0 (over the integers, or modulo a prime)");
        Edge.asks(RankDesk::new, desk -> desk.rank(0), 0);
        Edge.asks(RankDesk::new, desk -> desk.rank(2), 0);
        Edge.asks(Edge.text(withMinor(0)), desk -> desk.rank(0), 1);
        Edge.asks(Edge.text(withMinor(1)), desk -> desk.rank(0), 2);
        Edge.asks(Edge.text("matrix 2 2;row 20,19;row 19,18;"), desk -> desk.rank(0), 2);
        Edge.asks(Edge.text("matrix 2 2;row 20,-10;row -10,5;"), desk -> desk.rank(0), 1);
        Edge.asks(Edge.text(PRIME_DIAGONAL), desk -> desk.rank(0), 6);
        Edge.asks(Edge.text(GREAT), desk -> desk.rank(0), 6);
        for (int p : Edge.PRIMES) {
            Edge.answers(Edge.text(withMinor(p)), desk -> desk.rank(0), 2);
            Edge.answers(Edge.text(withMinor(p)), desk -> desk.rank(p), 1);
            Edge.answers(Edge.text(withMinor(p - 1)), desk -> desk.rank(p), 2);
            Edge.answers(Edge.text(withMinor(p + 1)), desk -> desk.rank(p), 2);
            Edge.answers(Edge.text(PRIME_DIAGONAL), desk -> desk.rank(p), p <= 13 ? 5 : 6);
            Edge.answers(Edge.text(GREAT), desk -> desk.rank(p), p == 2 || p == 5 ? 0 : 6);
        }
        Edge.says("RANKS", "Modulo a prime p all is as over the integers, but numbers that differ by multiples of p are the "
                + "same; so the rank modulo p is never greater.");
        for (int p : Edge.PRIMES) {
            for (int entry = -20; entry <= 20; entry++) {
                Edge.answers(Edge.text(withEntry(entry)), desk -> desk.rank(p), entry % p == 0 ? 0 : 1);
            }
        }
        Edge.answers(Edge.text("matrix 2 2;row 1,-1;row 1,1;"), desk -> desk.rank(2), 1);
        Edge.answers(Edge.text("matrix 2 1;row 13;row -6;"), desk -> desk.rankOf(19, 3, 1), 1);
        Edge.says("10", "Returns the rank of the matrix.");
        Edge.asks(Edge::full, desk -> desk.rank(0), 2);
        Edge.says("10", "Throws `IllegalArgumentException` if m is no modulus");
        Edge.moduli(Edge::full, true, RankDesk::rank);
        Edge.says("EXCEPTIONS", "A modulus is told by a number m: 0 for the integers, otherwise a prime number, 2 to 97; "
                + "another number is out of range.");
        Edge.answers(Edge.text(withEntry(2)), desk -> desk.rank(0), 1);
        Edge.answers(Edge.text(withEntry(2)), desk -> desk.rank(2), 0);
        Edge.answers(Edge.text(withMinor(97)), desk -> desk.rank(97), 1);
        for (int m : new int[] {-2, -1, 1, 4, 96, 98, 101}) {
            Edge.refuses(Edge.text(withMinor(97)), desk -> desk.rank(m), Edge.BAD_VALUE);
        }
    }

    private static void parts() {
        Edge.says("RANKS", "A part of the matrix is told by a set of rows and a set of columns.");
        Edge.answers(Edge.text(WIDE), desk -> desk.rankOf(0, 1, 15), 1);
        Edge.answers(Edge.text(WIDE), desk -> desk.rankOf(0, 3, 8), 1);
        Edge.answers(Edge.text(CYCLE), desk -> desk.rankOf(0, 1, 5), 0);
        Edge.answers(Edge.text(CYCLE), desk -> desk.rankOf(0, 1, 2), 1);
        Edge.answers(Edge.text(CYCLE), desk -> desk.rankOf(0, 6, 5), 2);
        Edge.answers(Edge.text(CYCLE), desk -> desk.rankOf(3, 6, 5), 1);
        Edge.says("RANKS", "(An empty part has the rank 0.)");
        for (int m : new int[] {0, 2, 97}) {
            Edge.asks(Edge::full, desk -> desk.rankOf(m, 0, 7), 0);
            Edge.asks(Edge::full, desk -> desk.rankOf(m, 7, 0), 0);
            Edge.asks(Edge::full, desk -> desk.rankOf(m, 0, 0), 0);
        }
        Edge.says("EXCEPTIONS", "Sets are bit masks in which bit i stands for number i.");
        for (int i = 0; i < 6; i++) {
            int bit = 1 << i;
            int[] diagonal = {2, 3, 5, 7, 11, 13};
            Edge.answers(Edge.text(PRIME_DIAGONAL), desk -> desk.rankOf(0, 63, bit), 1);
            Edge.answers(Edge.text(PRIME_DIAGONAL), desk -> desk.rankOf(0, bit, 63 - bit), 0);
            Edge.answers(Edge.text(PRIME_DIAGONAL), desk -> desk.minor(bit, bit), diagonal[i]);
        }
        Edge.says("11", "Returns the rank of this part.");
        Edge.asks(Edge::full, desk -> desk.rankOf(0, 3, 7), 1);
        Edge.asks(Edge::full, desk -> desk.rankOf(5, 7, 3), 1);
        Edge.says("11", "Throws `IllegalArgumentException` if m is no modulus, or a set has a bit that stands for no row or "
                + "column");
        Edge.moduli(Edge::full, true, (desk, m) -> desk.rankOf(m, 1, 1));
        Edge.sets(Edge.text(WIDE), 2, (desk, rows) -> desk.rankOf(0, rows, 15), 0, 2);
        Edge.sets(Edge.text(WIDE), 4, (desk, columns) -> desk.rankOf(0, 3, columns), 0, 2);
        Edge.sets(Edge.text(TALL), 4, (desk, rows) -> desk.rankOf(0, rows, 3), 0, 2);
        Edge.sets(Edge.text(TALL), 2, (desk, columns) -> desk.rankOf(0, 15, columns), 0, 2);
        Edge.sets(Edge.text(GREAT), 6, (desk, rows) -> desk.rankOf(0, rows, 63), 0, 6);
        Edge.sets(Edge.text(GREAT), 6, (desk, columns) -> desk.rankOf(0, 63, columns), 0, 6);
        Edge.sets(RankDesk::new, 1, (desk, rows) -> desk.rankOf(0, rows, 1), 0, 0);
    }

    private static void minors() {
        Edge.says("RANKS", "is the determinant of this part, both in ascending order; that of two empty sets is 1");
        Edge.asks(RankDesk::new, desk -> desk.minor(0, 0), 1);
        Edge.asks(Edge.text(GREAT), desk -> desk.minor(0, 0), 1);
        Edge.asks(RankDesk::new, desk -> desk.minor(1, 1), 0);
        Edge.answers(Edge.text(CYCLE), desk -> desk.minor(7, 7), 30);
        Edge.answers(Edge.text(CYCLE), desk -> desk.minor(3, 6), 6);
        Edge.answers(Edge.text(CYCLE), desk -> desk.minor(5, 3), -10);
        Edge.answers(Edge.text(CYCLE), desk -> desk.minor(6, 5), -15);
        Edge.answers(Edge.text(PRIME_DIAGONAL), desk -> desk.minor(63, 63), 30030);
        Edge.answers(Edge.text(PRIME_DIAGONAL), desk -> desk.minor(48, 48), 143);
        Edge.says("12", "Returns the minor.");
        Edge.asks(Edge::full, desk -> desk.minor(6, 6), -13);
        Edge.asks(Edge.text(GREAT), desk -> desk.minor(63, 63), -8_192_000_000L);
        Edge.asks(Edge.text(GREAT), desk -> desk.minor(7, 7), -32_000);
        Edge.says("12", "Throws `IllegalArgumentException` if a set has a bit that stands for no row or column, or the sets "
                + "differ in size");
        Edge.answers(Edge.text(WIDE), desk -> desk.minor(3, 12), -52);
        Edge.refuses(Edge.text(WIDE), desk -> desk.minor(5, 3), Edge.BAD_VALUE);
        Edge.refuses(Edge.text(WIDE), desk -> desk.minor(4, 1), Edge.BAD_VALUE);
        Edge.refuses(Edge.text(WIDE), desk -> desk.minor(1, 16), Edge.BAD_VALUE);
        Edge.answers(Edge.text(TALL), desk -> desk.minor(12, 3), -5);
        Edge.refuses(Edge.text(TALL), desk -> desk.minor(3, 5), Edge.BAD_VALUE);
        Edge.refuses(Edge.text(TALL), desk -> desk.minor(16, 1), Edge.BAD_VALUE);
        Edge.refuses(Edge.text(GREAT), desk -> desk.minor(64, 1), Edge.BAD_VALUE);
        Edge.refuses(Edge.text(GREAT), desk -> desk.minor(1, 64), Edge.BAD_VALUE);
        for (int[] sets : new int[][] {{0, 1}, {1, 0}, {1, 3}, {3, 1}, {7, 3}, {-1, -1}, {Integer.MIN_VALUE, 1}}) {
            Edge.refuses(Edge::full, desk -> desk.minor(sets[0], sets[1]), Edge.BAD_VALUE);
        }
    }

    private static void profiles() {
        Edge.says("RANKS", "The row profile is the set of those rows i for which the rank of the rows 0 to i (with all "
                + "columns) is greater than that of the rows 0 to i - 1; the column profile likewise.");
        Edge.answers(RankDesk::new, desk -> desk.rowProfile(0), 0);
        Edge.answers(RankDesk::new, desk -> desk.columnProfile(0), 0);
        Edge.answers(Edge.text(withEntry(1)), desk -> desk.rowProfile(0), 1);
        Edge.answers(Edge.text(withEntry(-20)), desk -> desk.columnProfile(0), 1);
        Edge.answers(Edge.text("matrix 6 1;row 0;row 0;row 0;row 0;row 0;row 7;"), desk -> desk.rowProfile(0), 32);
        Edge.answers(Edge.text("matrix 1 6;row 0,0,0,0,0,7;"), desk -> desk.columnProfile(0), 32);
        Edge.answers(Edge.text("matrix 6 1;row 1;row 1;row 1;row 1;row 1;row 7;"), desk -> desk.rowProfile(0), 1);
        Edge.answers(Edge.text("matrix 1 6;row 1,0,0,0,0,7;"), desk -> desk.columnProfile(0), 1);
        Edge.answers(Edge.text("matrix 1 6;row 7,0,0,0,0,1;"), desk -> desk.columnProfile(7), 32);
        Edge.answers(Edge.text(GREAT), desk -> desk.rowProfile(0), 63);
        Edge.answers(Edge.text(GREAT), desk -> desk.columnProfile(0), 63);
        Edge.answers(Edge.text(GREAT), desk -> desk.rowProfile(5), 0);
        Edge.answers(Edge.text("matrix 3 2;row 0,1;row 0,2;row 1,0;"), desk -> desk.rowProfile(0), 5);
        Edge.says("13", "Returns the row profile.");
        Edge.asks(Edge::full, desk -> desk.rowProfile(0), 5);
        Edge.asks(Edge::full, desk -> desk.rowProfile(2), 6);
        Edge.asks(Edge.text(TALL), desk -> desk.rowProfile(0), 5);
        Edge.asks(Edge.text(TALL), desk -> desk.rowProfile(3), 12);
        Edge.says("13", "Throws `IllegalArgumentException` if m is no modulus");
        Edge.moduli(Edge::full, true, RankDesk::rowProfile);
        Edge.says("14", "Returns the column profile.");
        Edge.asks(Edge::full, desk -> desk.columnProfile(0), 3);
        Edge.asks(Edge::full, desk -> desk.columnProfile(5), 5);
        Edge.asks(Edge.text(WIDE), desk -> desk.columnProfile(0), 3);
        Edge.says("14", "Throws `IllegalArgumentException` if m is no modulus");
        Edge.moduli(Edge::full, true, RankDesk::columnProfile);
    }

    private static void pivots() {
        Edge.says("RANKS", "Row i has its pivot in the column j for which the rank of the part with the rows 0 to i and the "
                + "columns 0 to j is by 1 greater than each of those of the parts without row i, without column j and "
                + "without both; there is at most one such j.");
        int[] due = {1, 2, 0};
        for (int row = 0; row < 3; row++) {
            int number = row;
            Edge.answers(Edge.text(CYCLE), desk -> desk.pivot(0, number), due[row]);
            Edge.answers(Edge.text(CYCLE), desk -> desk.pivot(3, number), row == 1 ? -1 : due[row]);
        }
        Edge.answers(Edge.text(withEntry(5)), desk -> desk.pivot(0, 0), 0);
        Edge.answers(Edge.text("matrix 1 6;row 0,0,0,0,0,9;"), desk -> desk.pivot(0, 0), 5);
        Edge.answers(Edge.text("matrix 1 6;row 9,0,0,0,0,8;"), desk -> desk.pivot(3, 0), 5);
        Edge.answers(Edge.text("matrix 6 1;row 0;row 0;row 0;row 0;row 0;row 9;"), desk -> desk.pivot(0, 5), 0);
        Edge.answers(Edge.text("matrix 2 3;row 1,2,0;row 1,2,4;"), desk -> desk.pivot(0, 1), 2);
        Edge.says("15", "Returns the column in which the row has its pivot; NONE if it has none.");
        Edge.asks(RankDesk::new, desk -> desk.pivot(0, 0), -1);
        Edge.asks(Edge::full, desk -> desk.pivot(0, 1), -1);
        Edge.asks(Edge::full, desk -> desk.pivot(0, 2), 1);
        Edge.asks(Edge::full, desk -> desk.pivot(2, 0), -1);
        Edge.asks(Edge::full, desk -> desk.pivot(2, 1), 0);
        Edge.asks(Edge.text("matrix 2 3;row 1,2,0;row 1,2,0;"), desk -> desk.pivot(0, 1), -1);
        Edge.says("15", "Throws `IndexOutOfBoundsException` if there is no such row");
        Edge.numbered(Edge::full, 3, (desk, row) -> desk.pivot(0, row), 0, 1);
        Edge.numbered(Edge.text(WIDE), 2, (desk, row) -> desk.pivot(0, row), 0, 1);
        Edge.numbered(RankDesk::new, 1, (desk, row) -> desk.pivot(0, row), -1, -1);
        Edge.says("15", "Throws `IllegalArgumentException` if m is no modulus");
        Edge.moduli(Edge::full, true, (desk, m) -> desk.pivot(m, 2));
    }

    private static void divisors() {
        Edge.says("RANKS", "The divisor of a size is the greatest common divisor of all minors of this size, 0 if all are 0.");
        long[] due = {1, 20, 800, 32_000, 1_280_000, 102_400_000, 8_192_000_000L};
        for (int size = 0; size <= 6; size++) {
            int number = size;
            Edge.answers(Edge.text(GREAT), desk -> desk.divisor(number), due[size]);
            Edge.answers(Edge.text("matrix 6 6;"), desk -> desk.divisor(number), size == 0 ? 1 : 0);
        }
        Edge.answers(Edge.text("matrix 1 2;row -4,-6;"), desk -> desk.divisor(1), 2);
        Edge.answers(Edge.text("matrix 2 1;row 0;row -20;"), desk -> desk.divisor(1), 20);
        Edge.answers(Edge.text("matrix 2 2;row 0,1;row 1,0;"), desk -> desk.divisor(2), 1);
        Edge.answers(Edge.text("matrix 2 2;row 6,10;row 9,15;"), desk -> desk.divisor(2), 0);
        Edge.says("16", "Returns the divisor of this size; 1 for size 0; 0 for a size that is greater than the numbers of "
                + "rows or columns.");
        Edge.asks(Edge::full, desk -> desk.divisor(0), 1);
        Edge.asks(RankDesk::new, desk -> desk.divisor(0), 1);
        Edge.asks(Edge.text(WIDE), desk -> desk.divisor(2), 4);
        Edge.asks(Edge.text(WIDE), desk -> desk.divisor(3), 0);
        Edge.asks(Edge.text(WIDE), desk -> desk.divisor(4), 0);
        Edge.asks(Edge.text(TALL), desk -> desk.divisor(2), 1);
        Edge.asks(Edge.text(TALL), desk -> desk.divisor(3), 0);
        Edge.asks(Edge.text(withEntry(-7)), desk -> desk.divisor(1), 7);
        Edge.asks(Edge.text(withEntry(-7)), desk -> desk.divisor(2), 0);
        Edge.asks(Edge.text(withEntry(-7)), desk -> desk.divisor(6), 0);
        Edge.says("16", "- `size`: 0 to 6");
        Edge.ranges(Edge.text(GREAT), 0, 6, RankDesk::divisor, 1, 8_192_000_000L);
        Edge.says("16", "Throws `IllegalArgumentException` if size is out of range");
        Edge.ranges(RankDesk::new, 0, 6, RankDesk::divisor, 1, 0);
        Edge.ranges(Edge::full, 0, 6, RankDesk::divisor, 1, 0);
    }

    private static void invariants() {
        Edge.says("29", "- `size`: 1 to 6");
        Edge.ranges(Edge.text(GREAT), 1, 6, RankDesk::invariant, 20, 80);
        Edge.says("29", "Returns divisor(size) divided by divisor(size - 1); 0 if divisor(size) is 0.");
        long[] due = {20, 40, 40, 40, 80, 80};
        for (int size = 1; size <= 6; size++) {
            int number = size;
            Edge.answers(Edge.text(GREAT), desk -> desk.invariant(number), due[size - 1]);
            Edge.answers(RankDesk::new, desk -> desk.invariant(number), 0);
        }
        Edge.asks(Edge.text(WIDE), desk -> desk.invariant(2), 4);
        Edge.asks(Edge.text(WIDE), desk -> desk.invariant(3), 0);
        Edge.asks(Edge.text("matrix 2 2;row 6,10;row 9,15;"), desk -> desk.invariant(1), 1);
        Edge.asks(Edge.text("matrix 2 2;row 6,10;row 9,15;"), desk -> desk.invariant(2), 0);
        Edge.says("29", "Throws `IllegalArgumentException` if size is out of range");
        Edge.ranges(RankDesk::new, 1, 6, RankDesk::invariant, 0, 0);
        Edge.ranges(Edge::full, 1, 6, RankDesk::invariant, 1, 0);
    }

    private static void unluckyPrimes() {
        Edge.says("RANKS", "A prime p is unlucky if the rank modulo p is less than the rank.");
        Edge.answers(Edge.text("matrix 1 1;row 6;prime 97;prime 2;prime 5;prime 3;"), RankDesk::unlucky, 10);
        Edge.answers(Edge.text("matrix 2 2;row 6,0;row 0,6;prime 2;prime 5;"), RankDesk::unlucky, 1);
        Edge.answers(Edge.text("matrix 1 1;row 0;prime 2;prime 97;"), RankDesk::unlucky, 0);
        // Modulo 2 and 5 the profiles are others, the rank is not.
        Edge.answers(Edge.text(Edge.THREE), RankDesk::unlucky, 0);
        Edge.says("17", "Returns the set of the places of the primes that were told and are unlucky.");
        Edge.asks(Edge.text(PRIME_DIAGONAL), RankDesk::unlucky, 63);
        Edge.asks(RankDesk::new, RankDesk::unlucky, 0);
        Edge.asks(Edge::full, RankDesk::unlucky, 0);
        Edge.asks(Edge.text(withEntry(6)), RankDesk::unlucky, 0);
        Edge.asks(RankEdges::fewerPrimes, RankDesk::unlucky, 0);
        Edge.says("18", "Returns the least unlucky prime number from this number on, up to 97; NONE if there is none.");
        for (int p : Edge.PRIMES) {
            Edge.answers(Edge.text(withMinor(p)), desk -> desk.nextUnlucky(2), p);
            Edge.answers(Edge.text(withMinor(p)), desk -> desk.nextUnlucky(p), p);
            if (p < 97) {
                Edge.answers(Edge.text(withMinor(p)), desk -> desk.nextUnlucky(p + 1), -1);
            }
        }
        Edge.asks(RankDesk::new, desk -> desk.nextUnlucky(2), -1);
        Edge.asks(Edge.text(PRIME_DIAGONAL), desk -> desk.nextUnlucky(8), 11);
        Edge.asks(Edge.text(PRIME_DIAGONAL), desk -> desk.nextUnlucky(14), -1);
        Edge.asks(Edge::full, desk -> desk.nextUnlucky(2), -1);
        Edge.says("18", "- `from`: 2 to 97");
        Edge.ranges(Edge.text(withMinor(97)), 2, 97, RankDesk::nextUnlucky, 97, 97);
        Edge.says("18", "Throws `IllegalArgumentException` if from is out of range");
        Edge.ranges(Edge::full, 2, 97, RankDesk::nextUnlucky, -1, -1);
        Edge.refuses(Edge.text(withEntry(2)), desk -> desk.nextUnlucky(0), Edge.BAD_VALUE);
    }

    /** The text that was loaded before told more primes, which were unlucky. */
    private static RankDesk fewerPrimes() {
        RankDesk desk = Desks.of("matrix 1 1;row 6;prime 5;prime 2;prime 3;");
        Desks.load(desk, "matrix 1 1;row 6;prime 5;");
        return desk;
    }

    private static void nullities() {
        Edge.says("23", "Returns the number of solutions that count as basis: the number of columns minus the rank.");
        Edge.asks(Edge::full, desk -> desk.nullity(0), 1);
        Edge.asks(RankDesk::new, desk -> desk.nullity(0), 1);
        Edge.asks(Edge.text(WIDE), desk -> desk.nullity(0), 2);
        Edge.asks(Edge.text(WIDE), desk -> desk.nullity(2), 3);
        Edge.asks(Edge.text(TALL), desk -> desk.nullity(0), 0);
        Edge.asks(Edge.text("matrix 1 6;"), desk -> desk.nullity(97), 6);
        Edge.asks(Edge.text("matrix 6 1;"), desk -> desk.nullity(0), 1);
        Edge.asks(Edge.text(GREAT), desk -> desk.nullity(0), 0);
        Edge.says("23", "Throws `IllegalArgumentException` if m is no modulus");
        Edge.moduli(Edge::full, true, RankDesk::nullity);
    }

    private static void spoils() {
        Edge.says("32", "Returns how many of the numbers -20 to 20, in place of this entry, would give the matrix another "
                + "rank.");
        Edge.answers(Edge.text("matrix 2 2;row 1,20;row 1,0;"), desk -> desk.spoils(1, 1), 1);
        Edge.answers(Edge.text("matrix 2 2;row 1,-20;row 1,0;"), desk -> desk.spoils(1, 1), 1);
        Edge.answers(Edge.text("matrix 2 2;row 3,7;row 9,0;"), desk -> desk.spoils(1, 1), 0);
        Edge.answers(Edge.text("matrix 2 2;row 3,-7;row 9,0;"), desk -> desk.spoils(1, 1), 0);
        Edge.answers(Edge.text("matrix 2 2;row 1,20;row 1,20;"), desk -> desk.spoils(1, 1), 40);
        Edge.answers(Edge.text("matrix 2 2;row 1,20;row 1,20;"), desk -> desk.spoils(0, 0), 40);
        Edge.answers(RankDesk::new, desk -> desk.spoils(0, 0), 40);
        Edge.answers(Edge.text(withEntry(20)), desk -> desk.spoils(0, 0), 1);
        Edge.answers(Edge.text(withEntry(-20)), desk -> desk.spoils(0, 0), 1);
        Edge.answers(Edge.text("matrix 1 2;row 1,5;"), desk -> desk.spoils(0, 1), 0);
        Edge.asks(Edge::full, desk -> desk.spoils(0, 0), 40);
        Edge.says("32", "Throws `IndexOutOfBoundsException` if there is no such row or column");
        Edge.numbered(Edge.text("matrix 2 3;row 1,1,1;row 1,1,1;"), 2, (desk, row) -> desk.spoils(row, 2), 40, 40);
        Edge.numbered(Edge.text("matrix 2 3;row 1,1,1;row 1,1,1;"), 3, (desk, column) -> desk.spoils(1, column), 40, 40);
        Edge.numbered(RankDesk::new, 1, (desk, row) -> desk.spoils(row, 0), 40, 40);
    }

    static void run() {
        ranks();
        parts();
        minors();
        profiles();
        pivots();
        divisors();
        invariants();
        unluckyPrimes();
        nullities();
        spoils();
    }
}
