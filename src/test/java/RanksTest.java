/** Promises 10 to 18, 23, 29 and 32: ranks, minors, profiles, pivots, divisors, unlucky primes. */
public final class RanksTest {
    private static final String THREE = "matrix 3 3;row 2,4,6;row 1,2,3;row 3,1,-5;prime 2;prime 5;prime 7;";
    private static final int[] NO_MODULI = {-1, 1, 4, 9, 91, 98, 101, Integer.MAX_VALUE, Integer.MIN_VALUE};

    private static void ranks() {
        RankDesk desk = Desks.of(THREE);
        Check.answers("10 integers", () -> desk.rank(0), 2);
        Check.answers("10 modulo 2", () -> desk.rank(2), 2);
        Check.answers("10 modulo 97", () -> desk.rank(97), 2);
        RankDesk six = Desks.of("matrix 2 3;row 6,0,0;row 0,0,-10;");
        Check.answers("10 integers", () -> six.rank(0), 2);
        Check.answers("10 modulo 2", () -> six.rank(2), 0);
        Check.answers("10 modulo 3", () -> six.rank(3), 1);
        Check.answers("10 modulo 5", () -> six.rank(5), 1);
        Check.answers("10 modulo 7", () -> six.rank(7), 2);
        for (int m : NO_MODULI) {
            Check.isBadValue("10 modulus " + m, () -> desk.rank(m));
            Check.isBadValue("11 modulus " + m, () -> desk.rankOf(m, 1, 1));
            Check.isBadValue("13 modulus " + m, () -> desk.rowProfile(m));
            Check.isBadValue("14 modulus " + m, () -> desk.columnProfile(m));
            Check.isBadValue("15 modulus " + m, () -> desk.pivot(m, 0));
            Check.isBadValue("23 modulus " + m, () -> desk.nullity(m));
        }
        Check.answers("23 integers", () -> desk.nullity(0), 1);
        Check.answers("23 wide", () -> six.nullity(0), 1);
        Check.answers("23 modulo 2", () -> six.nullity(2), 3);
    }

    private static void parts() {
        RankDesk desk = Desks.of(THREE);
        Check.answers("11 rows 0 and 1", () -> desk.rankOf(0, 3, 7), 1);
        Check.answers("11 rows 0 and 2", () -> desk.rankOf(0, 5, 7), 2);
        Check.answers("11 a column", () -> desk.rankOf(0, 5, 2), 1);
        Check.answers("11 modulo 5", () -> desk.rankOf(5, 5, 3), 1);
        Check.answers("11 modulo 2", () -> desk.rankOf(2, 1, 7), 0);
        Check.answers("11 no rows", () -> desk.rankOf(0, 0, 7), 0);
        Check.answers("11 no columns", () -> desk.rankOf(0, 7, 0), 0);
        Check.isBadValue("11 rows", () -> desk.rankOf(0, 8, 7));
        Check.isBadValue("11 rows", () -> desk.rankOf(0, -1, 7));
        Check.isBadValue("11 columns", () -> desk.rankOf(0, 7, 9));
        Check.isBadValue("11 columns", () -> desk.rankOf(0, 7, Integer.MIN_VALUE));
    }

    private static void minors() {
        RankDesk desk = Desks.of(THREE);
        Check.answers("12 empty", () -> desk.minor(0, 0), 1);
        Check.answers("12 an entry", () -> desk.minor(4, 4), -5);
        Check.answers("12 of 2", () -> desk.minor(5, 3), -10);
        Check.answers("12 of 2", () -> desk.minor(5, 5), -28);
        Check.answers("12 of 2", () -> desk.minor(6, 6), -13);
        Check.answers("12 of 3", () -> desk.minor(7, 7), 0);
        Check.isBadValue("12 sizes", () -> desk.minor(1, 3));
        Check.isBadValue("12 sizes", () -> desk.minor(7, 0));
        Check.isBadValue("12 rows", () -> desk.minor(8, 1));
        Check.isBadValue("12 columns", () -> desk.minor(1, 8));
        Check.isBadValue("12 negative", () -> desk.minor(-1, -1));
        RankDesk order = Desks.of("matrix 3 3;row 0,2,0;row 0,0,3;row 5,0,0;");
        Check.answers("12 a cycle of 3", () -> order.minor(7, 7), 30);
        Check.answers("12 a swap", () -> order.minor(5, 3), -10);
    }

    /** Six rows of 20 and -20 whose minor is 160 times the sixth power of 20, the greatest there is. */
    private static void greatMinors() {
        RankDesk desk = Desks.of("matrix 6 6;row 20,20,20,20,20,20;row 20,-20,20,20,-20,-20;row 20,20,-20,20,20,-20;"
                + "row 20,20,20,-20,-20,20;row 20,-20,20,-20,20,20;row 20,-20,-20,20,20,20;");
        int[][] a = new int[6][6];
        for (int i = 0; i < 6; i++) {
            for (int j = 0; j < 6; j++) {
                a[i][j] = desk.entry(i, j) / 20;
            }
        }
        long due = 64_000_000L * determinant(a, 6);
        Check.isTrue("12 it is great", Math.abs(due) >= 4_294_967_296L);
        Check.answers("12 great", () -> desk.minor(63, 63), due);
        Check.answers("16 great", () -> desk.divisor(6), Math.abs(due));
        Check.answers("10 great", () -> desk.rank(0), 6);
        Check.answers("10 great modulo 3", () -> desk.rank(97), 6);
    }

    private static long determinant(int[][] a, int size) {
        if (size == 0) {
            return 1;
        }
        long sum = 0;
        for (int j = 0; j < size; j++) {
            int[][] rest = new int[size - 1][size - 1];
            for (int i = 1; i < size; i++) {
                for (int k = 0; k < size - 1; k++) {
                    rest[i - 1][k] = a[i][k < j ? k : k + 1];
                }
            }
            sum += (j % 2 == 0 ? 1 : -1) * a[0][j] * determinant(rest, size - 1);
        }
        return sum;
    }

    private static void profiles() {
        RankDesk desk = Desks.of(THREE);
        Check.answers("13 integers", () -> desk.rowProfile(0), 5);
        Check.answers("13 modulo 2", () -> desk.rowProfile(2), 6);
        Check.answers("14 integers", () -> desk.columnProfile(0), 3);
        Check.answers("14 modulo 2", () -> desk.columnProfile(2), 3);
        Check.answers("14 modulo 5", () -> desk.columnProfile(5), 5);
        RankDesk zero = Desks.of("matrix 2 4;");
        Check.answers("13 zeros", () -> zero.rowProfile(0), 0);
        Check.answers("14 zeros", () -> zero.columnProfile(0), 0);
        RankDesk late = Desks.of("matrix 3 4;row 0,0,0,0;row 0,0,7,1;row 0,0,7,3;");
        Check.answers("13 late", () -> late.rowProfile(0), 6);
        Check.answers("14 late", () -> late.columnProfile(0), 12);
        Check.answers("13 modulo 7", () -> late.rowProfile(7), 2);
        Check.answers("14 modulo 7", () -> late.columnProfile(7), 8);
    }

    private static void pivots() {
        RankDesk desk = Desks.of(THREE);
        Check.answers("15 row 0", () -> desk.pivot(0, 0), 0);
        Check.answers("15 row 1", () -> desk.pivot(0, 1), -1);
        Check.answers("15 row 2", () -> desk.pivot(0, 2), 1);
        Check.answers("15 row 0 modulo 2", () -> desk.pivot(2, 0), -1);
        Check.answers("15 row 2 modulo 5", () -> desk.pivot(5, 2), 2);
        Check.isOutside("15 row", () -> desk.pivot(0, 3));
        Check.isOutside("15 row", () -> desk.pivot(0, -1));
        Check.isOutside("15 row first", () -> desk.pivot(4, 3));
        RankDesk turned = Desks.of("matrix 3 3;row 0,0,1;row 0,2,5;row 3,1,1;");
        Check.answers("15 last column", () -> turned.pivot(0, 0), 2);
        Check.answers("15 middle", () -> turned.pivot(0, 1), 1);
        Check.answers("15 first", () -> turned.pivot(0, 2), 0);
    }

    private static void divisors() {
        RankDesk desk = Desks.of("matrix 2 3;row 4,0,0;row 0,6,0;");
        Check.answers("16 of 0", () -> desk.divisor(0), 1);
        Check.answers("16 of 1", () -> desk.divisor(1), 2);
        Check.answers("16 of 2", () -> desk.divisor(2), 24);
        Check.answers("16 of 3", () -> desk.divisor(3), 0);
        Check.answers("16 of 6", () -> desk.divisor(6), 0);
        Check.isBadValue("16 of 7", () -> desk.divisor(7));
        Check.isBadValue("16 of -1", () -> desk.divisor(-1));
        Check.answers("29 of 1", () -> desk.invariant(1), 2);
        Check.answers("29 of 2", () -> desk.invariant(2), 12);
        Check.answers("29 of 3", () -> desk.invariant(3), 0);
        Check.answers("29 of 4", () -> desk.invariant(4), 0);
        Check.isBadValue("29 of 0", () -> desk.invariant(0));
        Check.isBadValue("29 of 7", () -> desk.invariant(7));
        RankDesk negative = Desks.of("matrix 2 2;row -3,0;row 0,-3;");
        Check.answers("16 is not negative", () -> negative.divisor(1), 3);
        Check.answers("16 of zeros", () -> Desks.of("matrix 2 2;").divisor(2), 0);
        Check.answers("16 of zeros", () -> Desks.of("matrix 2 2;").divisor(1), 0);
        Check.answers("29 of zeros", () -> Desks.of("matrix 2 2;").invariant(2), 0);
    }

    private static void unluckyPrimes() {
        RankDesk desk = Desks.of("matrix 2 2;row 6,0;row 0,5;prime 7;prime 5;prime 3;prime 2;");
        Check.answers("17 places", desk::unlucky, 14);
        desk.setEntry(1, 1, 7);
        Check.answers("17 place 0", desk::unlucky, 13);
        desk.undo();
        Check.answers("18 from 2", () -> desk.nextUnlucky(2), 2);
        Check.answers("18 from 3", () -> desk.nextUnlucky(3), 3);
        Check.answers("18 from 4", () -> desk.nextUnlucky(4), 5);
        Check.answers("18 from 6", () -> desk.nextUnlucky(6), -1);
        Check.answers("18 from 97", () -> desk.nextUnlucky(97), -1);
        Check.isBadValue("18 below", () -> desk.nextUnlucky(1));
        Check.isBadValue("18 above", () -> desk.nextUnlucky(98));
        RankDesk last = Desks.of("matrix 2 2;row 9,-4;row 20,2;");
        Check.answers("18 a prime that was not told", () -> last.minor(3, 3), 98);
        Check.answers("18 two of them", () -> last.nextUnlucky(3), 7);
        RankDesk great = Desks.of("matrix 2 2;row 9,-5;row 5,8;");
        Check.answers("12 great prime", () -> great.minor(3, 3), 97);
        Check.answers("18 the greatest", () -> great.nextUnlucky(2), 97);
        Check.answers("18 the greatest", () -> great.nextUnlucky(97), 97);
        Check.answers("17 no primes", great::unlucky, 0);
    }

    private static void spoils() {
        RankDesk desk = Desks.of("matrix 2 2;row 2,4;row 1,2;");
        Check.answers("32 of rank 1", () -> desk.spoils(0, 0), 40);
        Check.answers("32 nothing changes", () -> desk.entry(0, 0), 2);
        Check.answers("32 no undo", desk::undoCount, 1);
        RankDesk full = Desks.of("matrix 2 2;row 1,0;row 0,1;");
        Check.answers("32 only 0 spoils", () -> full.spoils(0, 0), 1);
        Check.answers("32 none spoils", () -> full.spoils(0, 1), 0);
        RankDesk far = Desks.of("matrix 2 2;row 1,20;row 2,1;");
        Check.answers("32 40 is out of range", () -> far.spoils(1, 1), 0);
        RankDesk one = new RankDesk();
        Check.answers("32 zero", () -> one.spoils(0, 0), 40);
        Check.isOutside("32 row", () -> desk.spoils(2, 0));
        Check.isOutside("32 column", () -> desk.spoils(0, 2));
        Check.isOutside("32 negative", () -> desk.spoils(-1, 0));
        Check.isOutside("32 negative", () -> desk.spoils(0, -1));
    }

    public static void main(String[] args) {
        ranks();
        parts();
        minors();
        greatMinors();
        profiles();
        pivots();
        divisors();
        unluckyPrimes();
        spoils();
        Check.end();
    }
}
