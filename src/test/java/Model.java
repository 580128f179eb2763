import java.math.BigInteger;
import java.util.ArrayDeque;
import java.util.ArrayList;
import java.util.Arrays;
import java.util.Deque;
import java.util.List;
import java.util.NoSuchElementException;
import java.util.TreeSet;

/**
 * The document once more, word by word and without any thrift: ranks are sizes of minors that are not 0, relations
 * are solved with fractions. ModelTest compares it with RankDesk.
 */
public final class Model {
    private static final List<Integer> PRIMES = Arrays.asList(2, 3, 5, 7, 11, 13, 17, 19, 23, 29, 31, 37, 41, 43, 47,
            53, 59, 61, 67, 71, 73, 79, 83, 89, 97);

    private static final class Data {
        int[][] a = new int[1][1];
        List<Integer> primes = new ArrayList<>();
        int[] guess = null;
        int probes = 0;
        int tries = 0;
        int[] vector = new int[1];
        int[] claim = null;
        List<long[]> relations = new ArrayList<>();

        Data copy() {
            Data d = new Data();
            d.a = new int[a.length][];
            for (int i = 0; i < a.length; i++) {
                d.a[i] = a[i].clone();
            }
            d.primes = new ArrayList<>(primes);
            d.guess = guess == null ? null : guess.clone();
            d.probes = probes;
            d.tries = tries;
            d.vector = vector.clone();
            d.claim = claim == null ? null : claim.clone();
            for (long[] r : relations) {
                d.relations.add(r.clone());
            }
            return d;
        }
    }

    private Data now = new Data();
    private final Deque<Data> past = new ArrayDeque<>();
    private final Data[] slots = new Data[2];
    private StringBuilder text = new StringBuilder();
    private String output = "";
    private int code = 0;
    private int position = -1;

    private int rows() {
        return now.a.length;
    }

    private int columns() {
        return now.a[0].length;
    }

    private void remember() {
        past.addLast(now.copy());
        while (past.size() > 6) {
            past.removeFirst();
        }
    }

    private static void outside(boolean condition) {
        if (condition) {
            throw new IndexOutOfBoundsException();
        }
    }

    private static void bad(boolean condition) {
        if (condition) {
            throw new IllegalArgumentException();
        }
    }

    private static void state(boolean condition) {
        if (condition) {
            throw new IllegalStateException();
        }
    }

    private static void missing(boolean condition) {
        if (condition) {
            throw new NoSuchElementException();
        }
    }

    private void row(int row) {
        outside(row < 0 || row >= rows());
    }

    private void column(int column) {
        outside(column < 0 || column >= columns());
    }

    private static void modulus(int m) {
        bad(m != 0 && !PRIMES.contains(m));
    }

    private void rowSet(int set) {
        bad(set < 0 || set >= 1 << rows());
    }

    private void columnSet(int set) {
        bad(set < 0 || set >= 1 << columns());
    }

    private static List<Integer> members(int set) {
        List<Integer> members = new ArrayList<>();
        for (int i = 0; i < 6; i++) {
            if ((set & 1 << i) != 0) {
                members.add(i);
            }
        }
        return members;
    }

    private static long minor(int[][] a, List<Integer> rows, List<Integer> columns) {
        if (rows.isEmpty()) {
            return 1;
        }
        long sum = 0;
        for (int k = 0; k < columns.size(); k++) {
            int entry = a[rows.get(0)][columns.get(k)];
            if (entry != 0) {
                List<Integer> rest = new ArrayList<>(columns);
                rest.remove(k);
                sum += (k % 2 == 0 ? 1 : -1) * entry * minor(a, rows.subList(1, rows.size()), rest);
            }
        }
        return sum;
    }

    /** All minors of the latest matrix that was asked for. */
    private int[][] tableOf = null;
    private final long[][] table = new long[64][64];

    private long minorAt(int[][] a, int rows, int columns) {
        if (!Arrays.deepEquals(a, tableOf)) {
            tableOf = new int[a.length][];
            for (int i = 0; i < a.length; i++) {
                tableOf[i] = a[i].clone();
            }
            for (int r = 0; r < 1 << a.length; r++) {
                for (int c = 0; c < 1 << a[0].length; c++) {
                    if (Integer.bitCount(r) == Integer.bitCount(c)) {
                        table[r][c] = r == 0 ? 1 : expanded(a, r, c);
                    }
                }
            }
        }
        return table[rows][columns];
    }

    private long expanded(int[][] a, int r, int c) {
        int first = Integer.numberOfTrailingZeros(r);
        long sum = 0;
        int sign = 1;
        for (int j : members(c)) {
            sum += sign * (long) a[first][j] * table[r & ~(1 << first)][c & ~(1 << j)];
            sign = -sign;
        }
        return sum;
    }

    private int rank(int[][] a, int m, int rows, int columns) {
        int greatest = 0;
        for (int r = rows;; r = r - 1 & rows) {
            for (int c = columns;; c = c - 1 & columns) {
                if (Integer.bitCount(r) == Integer.bitCount(c) && Integer.bitCount(r) > greatest) {
                    long minor = minorAt(a, r, c);
                    if (m == 0 ? minor != 0 : minor % m != 0) {
                        greatest = Integer.bitCount(r);
                    }
                }
                if (c == 0) {
                    break;
                }
            }
            if (r == 0) {
                break;
            }
        }
        return greatest;
    }

    private int rankOfRows(int[][] a, int m, int rows) {
        return rank(a, m, rows, (1 << a[0].length) - 1);
    }

    private int fullRank(int m) {
        return rankOfRows(now.a, m, (1 << rows()) - 1);
    }

    private int profile(int[][] a, int m) {
        int profile = 0;
        for (int i = 0; i < a.length; i++) {
            if (rankOfRows(a, m, (2 << i) - 1) > rankOfRows(a, m, (1 << i) - 1)) {
                profile |= 1 << i;
            }
        }
        return profile;
    }

    private static int[][] turned(int[][] a) {
        int[][] b = new int[a[0].length][a.length];
        for (int i = 0; i < a.length; i++) {
            for (int j = 0; j < a[0].length; j++) {
                b[j][i] = a[i][j];
            }
        }
        return b;
    }

    /** Solves, by fractions of a common denominator, for the relation: the rows of the profile and the row itself. */
    private long[] relation(int[][] a, int row) {
        int profile = profile(a, 0);
        if ((profile & 1 << row) != 0) {
            return null;
        }
        List<Integer> basis = members(profile & (1 << row) - 1);
        int n = basis.size();
        // One equation a column: the sum of y(k) times the row of the basis is the row.
        BigInteger[][] e = new BigInteger[a[0].length][n + 1];
        for (int j = 0; j < a[0].length; j++) {
            for (int k = 0; k < n; k++) {
                e[j][k] = BigInteger.valueOf(a[basis.get(k)][j]);
            }
            e[j][n] = BigInteger.valueOf(a[row][j]);
        }
        for (int k = 0; k < n; k++) {
            int p = k;
            while (e[p][k].signum() == 0) {
                p++;
            }
            BigInteger[] swap = e[p];
            e[p] = e[k];
            e[k] = swap;
            for (int j = 0; j < e.length; j++) {
                if (j != k) {
                    BigInteger pivot = e[k][k];
                    BigInteger factor = e[j][k];
                    for (int i = 0; i <= n; i++) {
                        e[j][i] = e[j][i].multiply(pivot).subtract(e[k][i].multiply(factor));
                    }
                }
            }
        }
        BigInteger own = BigInteger.ONE;
        for (int k = 0; k < n; k++) {
            own = own.multiply(e[k][k]).abs();
        }
        BigInteger[] x = new BigInteger[a.length];
        Arrays.fill(x, BigInteger.ZERO);
        x[row] = own;
        BigInteger divisor = own;
        for (int k = 0; k < n; k++) {
            x[basis.get(k)] = own.multiply(e[k][n]).divide(e[k][k]).negate();
            divisor = divisor.gcd(x[basis.get(k)]);
        }
        long[] answer = new long[a.length];
        for (int k = 0; k < a.length; k++) {
            answer[k] = x[k].divide(divisor).longValueExact();
        }
        return answer;
    }

    /** Tries the numbers of a basis, row by row, by the definition: finds them by elimination modulo the prime. */
    private int[] relationModulo(int m, int row) {
        int profile = profile(now.a, m);
        if ((profile & 1 << row) != 0) {
            return null;
        }
        List<Integer> basis = members(profile & (1 << row) - 1);
        int n = basis.size();
        int[][] e = new int[columns()][n + 1];
        for (int j = 0; j < columns(); j++) {
            for (int k = 0; k < n; k++) {
                e[j][k] = Math.floorMod(now.a[basis.get(k)][j], m);
            }
            e[j][n] = Math.floorMod(-now.a[row][j], m);
        }
        int[] x = new int[rows()];
        x[row] = 1;
        reduce(e, m, n);
        for (int k = 0; k < n; k++) {
            x[basis.get(k)] = e[k][n];
        }
        return x;
    }

    /** Gauss and Jordan modulo a prime, over the first columns; returns the rank. */
    private static int reduce(int[][] e, int m, int width) {
        int r = 0;
        for (int j = 0; j < width && r < e.length; j++) {
            int p = r;
            while (p < e.length && e[p][j] == 0) {
                p++;
            }
            if (p == e.length) {
                continue;
            }
            int[] swap = e[p];
            e[p] = e[r];
            e[r] = swap;
            int inverse = BigInteger.valueOf(e[r][j]).modInverse(BigInteger.valueOf(m)).intValue();
            for (int i = 0; i < e[r].length; i++) {
                e[r][i] = e[r][i] * inverse % m;
            }
            for (int k = 0; k < e.length; k++) {
                int factor = e[k][j];
                for (int i = 0; k != r && i < e[k].length; i++) {
                    e[k][i] = Math.floorMod(e[k][i] - factor * e[r][i], m);
                }
            }
            r++;
        }
        return r;
    }

    public int append(int a, int b, int c, int d, int e) {
        state(text.length() + 20 > 400);
        for (int word : new int[] {a, b, c, d, e}) {
            text.append((char) (word >> 24 & 255)).append((char) (word >> 16 & 255));
            text.append((char) (word >> 8 & 255)).append((char) (word & 255));
        }
        return text.length();
    }

    public void truncate(int length) {
        bad(length < 0 || length > text.length());
        text.setLength(length);
    }

    private static final class Wrong extends Exception {
        final int code;
        final int at;

        Wrong(int code, int at) {
            this.code = code;
            this.at = at;
        }
    }

    private List<String> tokens;
    private List<Integer> places;
    private int next;

    private void tokenize() {
        tokens = new ArrayList<>();
        places = new ArrayList<>();
        java.util.regex.Matcher matcher = java.util.regex.Pattern.compile("[a-z]+|[0-9]+|[^ \n]",
                java.util.regex.Pattern.DOTALL).matcher(text);
        while (matcher.find()) {
            tokens.add(matcher.group());
            places.add(matcher.start());
        }
        tokens.add("");
        places.add(text.length());
        next = 0;
    }

    private Wrong wrong(int code) {
        return new Wrong(code, places.get(next));
    }

    private void expect(String token) throws Wrong {
        if (!tokens.get(next).equals(token)) {
            throw wrong(1);
        }
        next++;
    }

    private int number(int least, int greatest) throws Wrong {
        if (!tokens.get(next).matches("[0-9]+")) {
            throw wrong(1);
        }
        BigInteger value = new BigInteger(tokens.get(next));
        if (value.compareTo(BigInteger.valueOf(least)) < 0 || value.compareTo(BigInteger.valueOf(greatest)) > 0) {
            throw wrong(2);
        }
        next++;
        return value.intValue();
    }

    private int told;

    private Data parsed() throws Wrong {
        Data d = new Data();
        tokenize();
        told = 0;
        expect("matrix");
        int height = number(1, 6);
        int width = number(1, 6);
        expect(";");
        d.a = new int[height][width];
        d.vector = new int[height];
        while (!tokens.get(next).isEmpty()) {
            if (tokens.get(next).equals("row")) {
                if (told == height) {
                    throw wrong(5);
                }
                next++;
                for (int j = 0; j < width; j++) {
                    if (j > 0) {
                        expect(",");
                    }
                    boolean minus = tokens.get(next).equals("-");
                    next += minus ? 1 : 0;
                    d.a[told][j] = number(0, 20) * (minus ? -1 : 1);
                }
                told++;
            } else {
                expectPrime(d);
            }
            expect(";");
        }
        return d;
    }

    private void expectPrime(Data d) throws Wrong {
        if (tokens.get(next).equals("prime") && d.primes.size() == 6) {
            throw wrong(5);
        }
        expect("prime");
        int p = number(2, 97);
        next--;
        if (!PRIMES.contains(p)) {
            throw wrong(3);
        }
        if (d.primes.contains(p)) {
            throw wrong(4);
        }
        next++;
        d.primes.add(p);
    }

    public int load() {
        try {
            Data d = parsed();
            remember();
            now = d;
            code = 0;
            position = -1;
            return told;
        } catch (Wrong e) {
            code = e.code;
            position = e.at;
            return -4;
        } finally {
            text = new StringBuilder();
        }
    }

    public int errorCode() {
        return code;
    }

    public int errorPosition() {
        return position;
    }

    public int count(int what) {
        bad(what < 0 || what > 6);
        int entries = 0;
        for (int[] row : now.a) {
            for (int entry : row) {
                entries += entry == 0 ? 0 : 1;
            }
        }
        return new int[] {rows(), columns(), now.primes.size(), entries, now.relations.size(), now.probes,
            now.tries}[what];
    }

    public int prime(int place) {
        outside(place < 0 || place >= now.primes.size());
        return now.primes.get(place);
    }

    public int entry(int row, int column) {
        row(row);
        column(column);
        return now.a[row][column];
    }

    public int rank(int m) {
        modulus(m);
        return fullRank(m);
    }

    public int rankOf(int m, int rows, int columns) {
        modulus(m);
        rowSet(rows);
        columnSet(columns);
        return rank(now.a, m, rows, columns);
    }

    private void square(int rows, int columns) {
        rowSet(rows);
        columnSet(columns);
        bad(members(rows).size() != members(columns).size());
    }

    public long minor(int rows, int columns) {
        square(rows, columns);
        return minor(now.a, members(rows), members(columns));
    }

    public int rowProfile(int m) {
        modulus(m);
        return profile(now.a, m);
    }

    public int columnProfile(int m) {
        modulus(m);
        return profile(turned(now.a), m);
    }

    private int corner(int m, int height, int width) {
        return rank(now.a, m, (1 << height) - 1, (1 << width) - 1);
    }

    public int pivot(int m, int row) {
        row(row);
        modulus(m);
        for (int j = 0; j < columns(); j++) {
            int r = corner(m, row + 1, j + 1);
            if (r - corner(m, row, j + 1) == 1 && r - corner(m, row + 1, j) == 1 && r - corner(m, row, j) == 1) {
                return j;
            }
        }
        return -1;
    }

    public long divisor(int size) {
        bad(size < 0 || size > 6);
        BigInteger divisor = BigInteger.ZERO;
        for (int r = 0; r < 1 << rows(); r++) {
            for (int c = 0; c < 1 << columns(); c++) {
                if (Integer.bitCount(r) == size && Integer.bitCount(c) == size) {
                    divisor = divisor.gcd(BigInteger.valueOf(minorAt(now.a, r, c)));
                }
            }
        }
        return divisor.longValueExact();
    }

    public int unlucky() {
        int set = 0;
        for (int i = 0; i < now.primes.size(); i++) {
            if (fullRank(now.primes.get(i)) < fullRank(0)) {
                set |= 1 << i;
            }
        }
        return set;
    }

    public int nextUnlucky(int from) {
        bad(from < 2 || from > 97);
        for (int p : PRIMES) {
            if (p >= from && fullRank(p) < fullRank(0)) {
                return p;
            }
        }
        return -1;
    }

    public long relation(int row, int k) {
        row(row);
        row(k);
        long[] x = relation(now.a, row);
        missing(x == null);
        return x[k];
    }

    public long columnRelation(int column, int k) {
        column(column);
        column(k);
        long[] x = relation(turned(now.a), column);
        missing(x == null);
        return x[k];
    }

    public int relationMod(int m, int row, int k) {
        row(row);
        row(k);
        bad(!PRIMES.contains(m));
        int[] x = relationModulo(m, row);
        missing(x == null);
        return x[k];
    }

    public long weight(int row) {
        row(row);
        long[] x = relation(now.a, row);
        missing(x == null);
        return Arrays.stream(x).map(Math::abs).max().getAsLong();
    }

    public int nullity(int m) {
        modulus(m);
        return columns() - fullRank(m);
    }

    public boolean isNeeded(int m, int row) {
        row(row);
        modulus(m);
        return rankOfRows(now.a, m, (1 << rows()) - 1 - (1 << row)) < fullRank(m);
    }

    private boolean free(int m, int rows) {
        return rankOfRows(now.a, m, rows) == Integer.bitCount(rows);
    }

    public boolean areIndependent(int m, int rows) {
        modulus(m);
        rowSet(rows);
        return free(m, rows);
    }

    public int bases(int m) {
        modulus(m);
        int bases = 0;
        for (int r = 0; r < 1 << rows(); r++) {
            bases += Integer.bitCount(r) == fullRank(m) && free(m, r) ? 1 : 0;
        }
        return bases;
    }

    public int extensions(int m, int rows) {
        modulus(m);
        rowSet(rows);
        bad(!free(m, rows));
        int set = 0;
        for (int i = 0; i < rows(); i++) {
            if ((rows & 1 << i) == 0 && free(m, rows | 1 << i)) {
                set |= 1 << i;
            }
        }
        return set;
    }

    public int closure(int m, int rows) {
        modulus(m);
        rowSet(rows);
        int set = 0;
        for (int i = 0; i < rows(); i++) {
            if (rankOfRows(now.a, m, rows | 1 << i) == rankOfRows(now.a, m, rows)) {
                set |= 1 << i;
            }
        }
        return set;
    }

    public long invariant(int size) {
        bad(size < 1 || size > 6);
        return divisor(size) == 0 ? 0 : divisor(size) / divisor(size - 1);
    }

    private TreeSet<Integer> allCircuits(int m) {
        TreeSet<Integer> circuits = new TreeSet<>();
        for (int r = 0; r < 1 << rows(); r++) {
            boolean is = !free(m, r);
            for (int i : members(r)) {
                is = is && free(m, r & ~(1 << i));
            }
            if (is) {
                circuits.add(r);
            }
        }
        return circuits;
    }

    public int circuits(int m) {
        modulus(m);
        return allCircuits(m).size();
    }

    public int circuit(int m, int row) {
        row(row);
        modulus(m);
        for (int circuit : allCircuits(m)) {
            if (members(circuit).contains(row)) {
                return circuit;
            }
        }
        return -1;
    }

    public int spoils(int row, int column) {
        row(row);
        column(column);
        int rank = fullRank(0);
        int entry = now.a[row][column];
        int spoilers = 0;
        for (int v = -20; v <= 20; v++) {
            now.a[row][column] = v;
            spoilers += fullRank(0) != rank ? 1 : 0;
        }
        now.a[row][column] = entry;
        return spoilers;
    }

    public long guessed(int rows, int columns, int primes) {
        bad(primes < 0 || primes > now.primes.size());
        square(rows, columns);
        // Garner's way: a digit for each prime, then the less of the two numbers nearest to 0.
        long minor = minor(now.a, members(rows), members(columns));
        long x = 0;
        long product = 1;
        for (int p : now.primes.subList(0, primes)) {
            for (int digit = 0; digit < p && Math.floorMod(x - minor, (long) p) != 0; digit++) {
                x += product;
            }
            product *= p;
        }
        return Math.abs(x - product) < x ? x - product : x;
    }

    public int guess(int what) {
        bad(what < 0 || what > 4);
        return now.guess == null ? -1 : what < 4 ? now.guess[what] : fault(now.guess);
    }

    private int fault(int[] guess) {
        if (guess[1] != fullRank(0)) {
            return 1;
        }
        if (guess[2] != rowProfile(0)) {
            return 2;
        }
        return guess[3] == columnProfile(0) ? 0 : 3;
    }

    private int[] guessBy(int place) {
        int p = now.primes.get(place);
        return new int[] {place, fullRank(p), rowProfile(p), columnProfile(p)};
    }

    public int vector(int row) {
        row(row);
        return now.vector[row];
    }

    public int product(int column) {
        column(column);
        int sum = 0;
        for (int i = 0; i < rows(); i++) {
            sum += now.vector[i] * now.a[i][column];
        }
        return sum;
    }

    public int claimed(int what) {
        bad(what < 0 || what > 1);
        return now.claim == null ? -1 : now.claim[what];
    }

    private void relationExists(int relation) {
        outside(relation < 0 || relation >= now.relations.size());
    }

    public long relationOf(int relation, int row) {
        relationExists(relation);
        row(row);
        return now.relations.get(relation)[row];
    }

    public int head(int relation) {
        relationExists(relation);
        int head = -1;
        for (int i = 0; i < rows(); i++) {
            head = now.relations.get(relation)[i] != 0 ? i : head;
        }
        return head;
    }

    public boolean holds(int relation) {
        relationExists(relation);
        for (int j = 0; j < columns(); j++) {
            long sum = 0;
            for (int i = 0; i < rows(); i++) {
                sum += now.relations.get(relation)[i] * now.a[i][j];
            }
            if (sum != 0) {
                return false;
            }
        }
        return true;
    }

    public int flaw() {
        if (now.claim == null) {
            return 1;
        }
        if (minor(now.claim[0], now.claim[1]) == 0) {
            return 2;
        }
        TreeSet<Integer> heads = new TreeSet<>();
        for (int r = 0; r < now.relations.size(); r++) {
            if (!holds(r)) {
                return 3;
            }
            heads.add(head(r));
        }
        if (heads.size() < now.relations.size()) {
            return 4;
        }
        return members(now.claim[0]).size() + now.relations.size() == rows() ? 0 : 5;
    }

    public int setEntry(int row, int column, int value) {
        row(row);
        column(column);
        bad(value < -20 || value > 20);
        remember();
        int previous = now.a[row][column];
        now.a[row][column] = value;
        return previous;
    }

    public int swapRows(int a, int b) {
        row(a);
        row(b);
        remember();
        int[] swap = now.a[a];
        now.a[a] = now.a[b];
        now.a[b] = swap;
        return fullRank(0);
    }

    public int swapColumns(int a, int b) {
        column(a);
        column(b);
        remember();
        for (int[] row : now.a) {
            int swap = row[a];
            row[a] = row[b];
            row[b] = swap;
        }
        return fullRank(0);
    }

    public int addRow(int a, int b, int factor) {
        row(a);
        row(b);
        bad(a == b || factor < -9 || factor > 9);
        for (int j = 0; j < columns(); j++) {
            int value = now.a[a][j] + factor * now.a[b][j];
            state(value < -20 || value > 20);
        }
        remember();
        for (int j = 0; j < columns(); j++) {
            now.a[a][j] += factor * now.a[b][j];
        }
        return fullRank(0);
    }

    public int negateRow(int row) {
        row(row);
        remember();
        for (int j = 0; j < columns(); j++) {
            now.a[row][j] = -now.a[row][j];
        }
        return fullRank(0);
    }

    public int transpose() {
        remember();
        now.a = turned(now.a);
        now.vector = new int[rows()];
        now.claim = null;
        now.relations.clear();
        return rows();
    }

    public int probe(int place) {
        outside(place < 0 || place >= now.primes.size());
        remember();
        int[] guess = guessBy(place);
        if (now.guess == null || !Arrays.equals(guess, now.guess)) {
            now.probes++;
        }
        now.guess = guess;
        return fault(guess);
    }

    public int repair() {
        remember();
        List<Integer> order = new ArrayList<>();
        int last = now.guess == null ? now.primes.size() - 1 : now.guess[0];
        for (int i = last + 1; i < now.primes.size(); i++) {
            order.add(i);
        }
        for (int i = 0; i <= last; i++) {
            order.add(i);
        }
        for (int place : order) {
            now.tries++;
            if (fault(guessBy(place)) == 0) {
                now.guess = guessBy(place);
                return place;
            }
        }
        return -1;
    }

    public int setVector(int row, int value) {
        row(row);
        bad(value < -9999 || value > 9999);
        remember();
        int previous = now.vector[row];
        now.vector[row] = value;
        return previous;
    }

    public int claim(int rows, int columns) {
        square(rows, columns);
        remember();
        now.claim = new int[] {rows, columns};
        return minor(rows, columns) == 0 ? 0 : 1;
    }

    public int addRelation() {
        state(Arrays.equals(now.vector, new int[rows()]) || now.relations.size() == 6);
        remember();
        now.relations.add(Arrays.stream(now.vector).asLongStream().toArray());
        return now.relations.size();
    }

    public int dropRelation(int relation) {
        relationExists(relation);
        remember();
        now.relations.remove(relation);
        return now.relations.size();
    }

    public int certify() {
        remember();
        now.claim = new int[] {rowProfile(0), columnProfile(0)};
        now.relations.clear();
        for (int i = 0; i < rows(); i++) {
            long[] x = relation(now.a, i);
            if (x != null) {
                now.relations.add(x);
            }
        }
        return fullRank(0);
    }

    public int clearCertificate() {
        remember();
        int count = now.relations.size();
        now.claim = null;
        now.relations.clear();
        now.vector = new int[rows()];
        return count;
    }

    public int keep(int slot) {
        outside(slot < 0 || slot > 1);
        slots[slot] = now.copy();
        return fullRank(0);
    }

    public int restore(int slot) {
        outside(slot < 0 || slot > 1);
        state(slots[slot] == null);
        remember();
        now = slots[slot].copy();
        return fullRank(0);
    }

    public int undo() {
        state(past.isEmpty());
        now = past.removeLast();
        return past.size();
    }

    public int undoCount() {
        return past.size();
    }

    private int write(String written) {
        output = written;
        return output.length();
    }

    private static String joined(long[] numbers) {
        List<String> texts = new ArrayList<>();
        for (long number : numbers) {
            texts.add(String.valueOf(number));
        }
        return String.join(" ", texts);
    }

    private static long[] wide(int[] numbers) {
        return Arrays.stream(numbers).asLongStream().toArray();
    }

    public int writeMatrix() {
        String written = "";
        for (int[] row : now.a) {
            written += joined(wide(row)) + "\n";
        }
        return write(written);
    }

    public int writeRelation(int row) {
        row(row);
        long[] x = relation(now.a, row);
        missing(x == null);
        List<String> texts = new ArrayList<>();
        for (int k = 0; k < x.length; k++) {
            if (x[k] != 0) {
                texts.add(x[k] + "*r" + k);
            }
        }
        return write(String.join(" ", texts));
    }

    public int writeCertificate() {
        String written = "";
        if (now.claim != null) {
            List<String> words = new ArrayList<>();
            words.add("rows");
            members(now.claim[0]).forEach(i -> words.add(String.valueOf(i)));
            words.add("columns");
            members(now.claim[1]).forEach(i -> words.add(String.valueOf(i)));
            written = String.join(" ", words);
        }
        written += "\n";
        for (long[] relation : now.relations) {
            written += joined(relation) + "\n";
        }
        return write(written);
    }

    public int writeEchelon(int m) {
        bad(!PRIMES.contains(m));
        int[][] e = new int[rows()][columns()];
        for (int i = 0; i < rows(); i++) {
            for (int j = 0; j < columns(); j++) {
                e[i][j] = Math.floorMod(now.a[i][j], m);
            }
        }
        int rank = reduce(e, m, columns());
        String written = "";
        for (int i = 0; i < rank; i++) {
            written += joined(wide(e[i])) + "\n";
        }
        return write(written);
    }

    public int writeRanks(int m) {
        modulus(m);
        String written = "";
        for (int i = 0; i < rows(); i++) {
            for (int j = 0; j < columns(); j++) {
                written += corner(m, i + 1, j + 1);
            }
            written += "\n";
        }
        return write(written);
    }

    public int outputByte(int index) {
        outside(index < 0 || index >= output.length());
        return output.charAt(index);
    }
}
