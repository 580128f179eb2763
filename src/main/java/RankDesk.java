import java.util.NoSuchElementException;

/** A desk for ranks of matrices of integers. Its promises stand in ../shared/DOC.md. */
public final class RankDesk {
    public static final int NONE = -1;
    public static final int PARSE_ERROR = -4;

    private static final int SIDE = 6;
    private static final int SETS = 64;
    private static final int SLOTS = 2;
    private static final int INTEGERS = 0;
    private static final int LARGEST_ENTRY = 20;
    private static final int LARGEST_FACTOR = 9;
    private static final int LARGEST_NUMBER = 9999;
    private static final int LARGEST_PRIME = 97;

    private final Input input;
    private final State draft;
    private final Parser parser;
    private final Output output;
    private final Reckoner reckoner;
    private final RowSets rowSets;
    private final State now;
    private final Guess trial;
    private final History history;
    private final State firstSlot;
    private final State secondSlot;
    private final boolean[] isKept;

    public RankDesk() {
        input = new Input();
        draft = new State();
        parser = new Parser(input, draft);
        output = new Output();
        reckoner = new Reckoner();
        rowSets = new RowSets(reckoner);
        now = new State();
        trial = new Guess();
        history = new History();
        firstSlot = new State();
        secondSlot = new State();
        isKept = new boolean[SLOTS];
    }

    public int append(int a, int b, int c, int d, int e) throws IllegalStateException {
        if (!input.hasRoomFor(20)) {
            throw new IllegalStateException("the input buffer is full");
        }
        input.addWord(a);
        input.addWord(b);
        input.addWord(c);
        input.addWord(d);
        input.addWord(e);
        return input.length;
    }

    public void truncate(int length) throws IllegalArgumentException {
        requireRange(length, 0, input.length);
        input.length = length;
    }

    public int load() {
        boolean isRight = parser.parse();
        input.length = 0;
        if (!isRight) {
            return PARSE_ERROR;
        }
        history.push(now);
        now.copyFrom(draft);
        return parser.rowsTold;
    }

    public int errorCode() {
        return parser.errorCode;
    }

    public int errorPosition() {
        return parser.errorPosition;
    }

    public int count(int what) throws IllegalArgumentException {
        requireRange(what, 0, 6);
        switch (what) {
            case 0:
                return now.matrix.height;
            case 1:
                return now.matrix.width;
            case 2:
                return now.primeCount;
            case 3:
                return now.matrix.filledCells();
            case 4:
                return now.certificate.relations.height;
            case 5:
                return now.newProbes;
            default:
                return now.repairTries;
        }
    }

    public int prime(int place) throws IndexOutOfBoundsException {
        requirePlace(place);
        return now.primeAt(place);
    }

    public int entry(int row, int column) throws IndexOutOfBoundsException {
        requireCell(row, column);
        return (int) now.matrix.at(row, column);
    }

    public int rank(int m) throws IllegalArgumentException {
        requireModulus(m);
        return reckoner.fullRank(now.matrix, m);
    }

    public int rankOf(int m, int rows, int columns) throws IllegalArgumentException {
        requireModulus(m);
        requireRowSet(rows);
        requireColumnSet(columns);
        return reckoner.partRank(now.matrix, m, rows, columns);
    }

    public long minor(int rows, int columns) throws IllegalArgumentException {
        requireSquare(rows, columns);
        return reckoner.minorOf(now.matrix, rows, columns);
    }

    public int rowProfile(int m) throws IllegalArgumentException {
        requireModulus(m);
        return reckoner.profileOfRows(now.matrix, m);
    }

    public int columnProfile(int m) throws IllegalArgumentException {
        requireModulus(m);
        return reckoner.profileOfColumns(now.matrix, m, now.matrix.allRows());
    }

    public int pivot(int m, int row) throws IndexOutOfBoundsException, IllegalArgumentException {
        requireRow(row);
        requireModulus(m);
        return reckoner.pivotColumn(now.matrix, m, row);
    }

    public long divisor(int size) throws IllegalArgumentException {
        requireRange(size, 0, SIDE);
        return reckoner.minorDivisor(now.matrix, size);
    }

    public int unlucky() {
        int rank = reckoner.fullRank(now.matrix, INTEGERS);
        int places = 0;
        for (int place = 0; place < now.primeCount; place++) {
            if (reckoner.fullRank(now.matrix, now.primeAt(place)) < rank) {
                places |= 1 << place;
            }
        }
        return places;
    }

    public int nextUnlucky(int from) throws IllegalArgumentException {
        requireRange(from, 2, LARGEST_PRIME);
        int rank = reckoner.fullRank(now.matrix, INTEGERS);
        for (int number = from; number <= LARGEST_PRIME; number++) {
            if (isPrime(number) && reckoner.fullRank(now.matrix, number) < rank) {
                return number;
            }
        }
        return NONE;
    }

    public long relation(int row, int k) throws IndexOutOfBoundsException, NoSuchElementException {
        requireRow(row);
        requireRow(k);
        requireOutsideProfile(now.matrix, INTEGERS, row);
        return reckoner.relationOfRow(now.matrix, INTEGERS, row).at(0, k);
    }

    public long columnRelation(int column, int k) throws IndexOutOfBoundsException, NoSuchElementException {
        requireColumn(column);
        requireColumn(k);
        Matrix turned = reckoner.turned(now.matrix);
        requireOutsideProfile(turned, INTEGERS, column);
        return reckoner.relationOfRow(turned, INTEGERS, column).at(0, k);
    }

    public int relationMod(int m, int row, int k)
            throws IndexOutOfBoundsException, IllegalArgumentException, NoSuchElementException {
        requireRow(row);
        requireRow(k);
        requirePrimeModulus(m);
        requireOutsideProfile(now.matrix, m, row);
        return (int) reckoner.relationOfRow(now.matrix, m, row).at(0, k);
    }

    public long weight(int row) throws IndexOutOfBoundsException, NoSuchElementException {
        requireRow(row);
        requireOutsideProfile(now.matrix, INTEGERS, row);
        Matrix relation = reckoner.relationOfRow(now.matrix, INTEGERS, row);
        long greatest = 0;
        for (int k = 0; k < relation.width; k++) {
            greatest = Math.max(greatest, Math.abs(relation.at(0, k)));
        }
        return greatest;
    }

    public int nullity(int m) throws IllegalArgumentException {
        requireModulus(m);
        return now.matrix.width - reckoner.fullRank(now.matrix, m);
    }

    public boolean isNeeded(int m, int row) throws IndexOutOfBoundsException, IllegalArgumentException {
        requireRow(row);
        requireModulus(m);
        int others = without(now.matrix.allRows(), row);
        return reckoner.partRank(now.matrix, m, others, now.matrix.allColumns()) < reckoner.fullRank(now.matrix, m);
    }

    public boolean areIndependent(int m, int rows) throws IllegalArgumentException {
        requireModulus(m);
        requireRowSet(rows);
        return rowSets.isFree(now.matrix, m, rows);
    }

    public int bases(int m) throws IllegalArgumentException {
        requireModulus(m);
        return rowSets.countBases(now.matrix, m);
    }

    public int extensions(int m, int rows) throws IllegalArgumentException {
        requireModulus(m);
        requireRowSet(rows);
        if (!rowSets.isFree(now.matrix, m, rows)) {
            throw new IllegalArgumentException("the rows are not independent");
        }
        return now.matrix.allRows() & ~rowSets.span(now.matrix, m, rows);
    }

    public int closure(int m, int rows) throws IllegalArgumentException {
        requireModulus(m);
        requireRowSet(rows);
        return rowSets.span(now.matrix, m, rows);
    }

    public long invariant(int size) throws IllegalArgumentException {
        requireRange(size, 1, SIDE);
        long divisor = reckoner.minorDivisor(now.matrix, size);
        return quotient(divisor, reckoner.minorDivisor(now.matrix, size - 1));
    }

    public int circuits(int m) throws IllegalArgumentException {
        requireModulus(m);
        return rowSets.countCircuits(now.matrix, m);
    }

    public int circuit(int m, int row) throws IndexOutOfBoundsException, IllegalArgumentException {
        requireRow(row);
        requireModulus(m);
        return rowSets.leastCircuit(now.matrix, m, row);
    }

    public int spoils(int row, int column) throws IndexOutOfBoundsException {
        requireCell(row, column);
        return reckoner.countSpoilers(now.matrix, row, column);
    }

    public long guessed(int rows, int columns, int primes) throws IllegalArgumentException {
        requireRange(primes, 0, now.primeCount);
        requireSquare(rows, columns);
        long modulus = 1;
        for (int place = 0; place < primes; place++) {
            modulus *= now.primeAt(place);
        }
        long rest = remainder(reckoner.minorOf(now.matrix, rows, columns), modulus);
        return 2 * rest > modulus ? rest - modulus : rest;
    }

    public int guess(int what) throws IllegalArgumentException {
        requireRange(what, 0, 4);
        if (what == 4 && now.guess.isMade()) {
            return reckoner.faultOf(now.guess, now.matrix);
        }
        return now.guess.valueOf(what);
    }

    public int vector(int row) throws IndexOutOfBoundsException {
        requireRow(row);
        return (int) now.certificate.vector.at(0, row);
    }

    public int product(int column) throws IndexOutOfBoundsException {
        requireColumn(column);
        return (int) now.certificate.vector.combination(0, now.matrix, column);
    }

    public int claimed(int what) throws IllegalArgumentException {
        requireRange(what, 0, 1);
        return what == 0 ? now.certificate.claimedRows : now.certificate.claimedColumns;
    }

    public long relationOf(int relation, int row) throws IndexOutOfBoundsException {
        requireRelation(relation);
        requireRow(row);
        return now.certificate.relations.at(relation, row);
    }

    public int head(int relation) throws IndexOutOfBoundsException {
        requireRelation(relation);
        return now.certificate.headOf(relation);
    }

    public boolean holds(int relation) throws IndexOutOfBoundsException {
        requireRelation(relation);
        return now.certificate.isTrue(relation, now.matrix);
    }

    public int flaw() {
        Certificate certificate = now.certificate;
        if (!certificate.hasClaim()) {
            return 1;
        }
        if (reckoner.minorOf(now.matrix, certificate.claimedRows, certificate.claimedColumns) == 0) {
            return 2;
        }
        if (!certificate.areAllTrue(now.matrix)) {
            return 3;
        }
        if (certificate.hasTwinHeads()) {
            return 4;
        }
        int told = Integer.bitCount(certificate.claimedRows) + certificate.relations.height;
        return told == now.matrix.height ? 0 : 5;
    }

    public int setEntry(int row, int column, int value) throws IndexOutOfBoundsException, IllegalArgumentException {
        requireCell(row, column);
        requireRange(value, -LARGEST_ENTRY, LARGEST_ENTRY);
        history.push(now);
        int previous = (int) now.matrix.at(row, column);
        now.matrix.put(row, column, value);
        return previous;
    }

    public int swapRows(int a, int b) throws IndexOutOfBoundsException {
        requireRow(a);
        requireRow(b);
        history.push(now);
        now.matrix.exchangeRows(a, b);
        return reckoner.fullRank(now.matrix, INTEGERS);
    }

    public int swapColumns(int a, int b) throws IndexOutOfBoundsException {
        requireColumn(a);
        requireColumn(b);
        history.push(now);
        now.matrix.exchangeColumns(a, b);
        return reckoner.fullRank(now.matrix, INTEGERS);
    }

    public int addRow(int a, int b, int factor)
            throws IndexOutOfBoundsException, IllegalArgumentException, IllegalStateException {
        requireRow(a);
        requireRow(b);
        requireRange(factor, -LARGEST_FACTOR, LARGEST_FACTOR);
        if (a == b) {
            throw new IllegalArgumentException("a row is added to itself");
        }
        if (!now.matrix.hasRoomForMultiple(a, b, factor)) {
            throw new IllegalStateException("an entry would be out of range");
        }
        history.push(now);
        now.matrix.addMultiple(a, b, factor);
        return reckoner.fullRank(now.matrix, INTEGERS);
    }

    public int negateRow(int row) throws IndexOutOfBoundsException {
        requireRow(row);
        history.push(now);
        // A row less twice itself is its negative.
        now.matrix.addMultiple(row, row, -2);
        return reckoner.fullRank(now.matrix, INTEGERS);
    }

    public int transpose() {
        history.push(now);
        now.matrix.copyFrom(reckoner.turned(now.matrix));
        now.certificate.clear(now.matrix.height);
        return now.matrix.height;
    }

    public int probe(int place) throws IndexOutOfBoundsException {
        requirePlace(place);
        history.push(now);
        reckoner.makeGuess(trial, now.matrix, place, now.primeAt(place));
        if (!trial.isSameAs(now.guess)) {
            now.newProbes++;
        }
        now.guess.copyFrom(trial);
        return reckoner.faultOf(trial, now.matrix);
    }

    public int repair() {
        history.push(now);
        int place = now.guess.place;
        for (int tries = 0; tries < now.primeCount; tries++) {
            place = place + 1 < now.primeCount ? place + 1 : 0;
            now.repairTries++;
            reckoner.makeGuess(trial, now.matrix, place, now.primeAt(place));
            if (reckoner.faultOf(trial, now.matrix) == 0) {
                now.guess.copyFrom(trial);
                return place;
            }
        }
        return NONE;
    }

    public int setVector(int row, int value) throws IndexOutOfBoundsException, IllegalArgumentException {
        requireRow(row);
        requireRange(value, -LARGEST_NUMBER, LARGEST_NUMBER);
        history.push(now);
        Matrix vector = now.certificate.vector;
        int previous = (int) vector.at(0, row);
        vector.put(0, row, value);
        return previous;
    }

    public int claim(int rows, int columns) throws IllegalArgumentException {
        requireSquare(rows, columns);
        history.push(now);
        now.certificate.setClaim(rows, columns);
        return reckoner.minorOf(now.matrix, rows, columns) != 0 ? 1 : 0;
    }

    public int addRelation() throws IllegalStateException {
        Certificate certificate = now.certificate;
        if (certificate.vector.filledCells() == 0) {
            throw new IllegalStateException("all numbers of the vector are 0");
        }
        if (certificate.relations.height >= SIDE) {
            throw new IllegalStateException("there is no room for another relation");
        }
        history.push(now);
        certificate.relations.addLine(certificate.vector);
        return certificate.relations.height;
    }

    public int dropRelation(int relation) throws IndexOutOfBoundsException {
        requireRelation(relation);
        history.push(now);
        now.certificate.relations.dropLine(relation);
        return now.certificate.relations.height;
    }

    public int certify() {
        history.push(now);
        Matrix matrix = now.matrix;
        Certificate certificate = now.certificate;
        int rows = reckoner.profileOfRows(matrix, INTEGERS);
        certificate.setClaim(rows, reckoner.profileOfColumns(matrix, INTEGERS, matrix.allRows()));
        certificate.relations.reset(0, matrix.height);
        for (int row = 0; row < matrix.height; row++) {
            if (!has(rows, row)) {
                certificate.relations.addLine(reckoner.relationOfRow(matrix, INTEGERS, row));
            }
        }
        return Integer.bitCount(rows);
    }

    public int clearCertificate() {
        history.push(now);
        int relations = now.certificate.relations.height;
        now.certificate.clear(now.matrix.height);
        return relations;
    }

    public int keep(int slot) throws IndexOutOfBoundsException {
        requireSlot(slot);
        stateOfSlot(slot).copyFrom(now);
        isKept[slot] = true;
        return reckoner.fullRank(now.matrix, INTEGERS);
    }

    public int restore(int slot) throws IndexOutOfBoundsException, IllegalStateException {
        requireSlot(slot);
        if (!isKept[slot]) {
            throw new IllegalStateException("nothing is kept in the slot");
        }
        history.push(now);
        now.copyFrom(stateOfSlot(slot));
        return reckoner.fullRank(now.matrix, INTEGERS);
    }

    public int undo() throws IllegalStateException {
        if (history.size == 0) {
            throw new IllegalStateException("there is nothing to undo");
        }
        history.popInto(now);
        return history.size;
    }

    public int undoCount() {
        return history.size;
    }

    public int writeMatrix() {
        output.clear();
        output.addLines(now.matrix);
        return output.length;
    }

    public int writeRelation(int row) throws IndexOutOfBoundsException, NoSuchElementException {
        requireRow(row);
        requireOutsideProfile(now.matrix, INTEGERS, row);
        Matrix relation = reckoner.relationOfRow(now.matrix, INTEGERS, row);
        output.clear();
        for (int k = 0; k < relation.width; k++) {
            if (relation.at(0, k) != 0) {
                output.addSeparator();
                output.addNumber(relation.at(0, k));
                output.addText("*r");
                output.addNumber(k);
            }
        }
        return output.length;
    }

    public int writeCertificate() {
        Certificate certificate = now.certificate;
        output.clear();
        if (certificate.hasClaim()) {
            output.addText("rows");
            output.addSet(certificate.claimedRows);
            output.addText(" columns");
            output.addSet(certificate.claimedColumns);
        }
        output.addText("\n");
        output.addLines(certificate.relations);
        return output.length;
    }

    public int writeEchelon(int m) throws IllegalArgumentException {
        requirePrimeModulus(m);
        output.clear();
        output.addLines(reckoner.echelonForm(now.matrix, m));
        return output.length;
    }

    public int writeRanks(int m) throws IllegalArgumentException {
        requireModulus(m);
        output.clear();
        for (int row = 0; row < now.matrix.height; row++) {
            for (int column = 0; column < now.matrix.width; column++) {
                output.addNumber(reckoner.cornerRank(now.matrix, m, row + 1, column + 1));
            }
            output.addText("\n");
        }
        return output.length;
    }

    public int outputByte(int index) throws IndexOutOfBoundsException {
        if (index < 0 || index >= output.length) {
            throw new IndexOutOfBoundsException("no such byte of the output");
        }
        return output.byteAt(index);
    }

    private State stateOfSlot(int slot) {
        return slot == 0 ? firstSlot : secondSlot;
    }

    private void requireRow(int row) {
        if (row < 0 || row >= now.matrix.height) {
            throw new IndexOutOfBoundsException("no such row");
        }
    }

    private void requireColumn(int column) {
        if (column < 0 || column >= now.matrix.width) {
            throw new IndexOutOfBoundsException("no such column");
        }
    }

    private void requireCell(int row, int column) {
        requireRow(row);
        requireColumn(column);
    }

    private void requirePlace(int place) {
        if (place < 0 || place >= now.primeCount) {
            throw new IndexOutOfBoundsException("no such prime");
        }
    }

    private void requireRelation(int relation) {
        if (relation < 0 || relation >= now.certificate.relations.height) {
            throw new IndexOutOfBoundsException("no such relation");
        }
    }

    private void requireSlot(int slot) {
        if (slot < 0 || slot >= isKept.length) {
            throw new IndexOutOfBoundsException("no such slot");
        }
    }

    private void requireOutsideProfile(Matrix matrix, int m, int row) {
        if (has(reckoner.profileOfRows(matrix, m), row)) {
            throw new NoSuchElementException("it is in the profile");
        }
    }

    private void requireRange(int value, int least, int greatest) {
        if (value < least || value > greatest) {
            throw new IllegalArgumentException("a value is out of range");
        }
    }

    private void requireModulus(int m) {
        if (m != INTEGERS) {
            requirePrimeModulus(m);
        }
    }

    private void requirePrimeModulus(int m) {
        if (m < 2 || m > LARGEST_PRIME || !isPrime(m)) {
            throw new IllegalArgumentException("no such modulus");
        }
    }

    private void requireRowSet(int rows) {
        if ((rows & ~now.matrix.allRows()) != 0) {
            throw new IllegalArgumentException("a bit stands for no row");
        }
    }

    private void requireColumnSet(int columns) {
        if ((columns & ~now.matrix.allColumns()) != 0) {
            throw new IllegalArgumentException("a bit stands for no column");
        }
    }

    private void requireSquare(int rows, int columns) {
        requireRowSet(rows);
        requireColumnSet(columns);
        if (Integer.bitCount(rows) != Integer.bitCount(columns)) {
            throw new IllegalArgumentException("the sets differ in size");
        }
    }

    /** For numbers from 2 to 97. */
    private static boolean isPrime(int number) {
        for (int factor = 2; factor * factor <= number && factor < LARGEST_PRIME; factor++) {
            if (number % factor == 0) {
                return false;
            }
        }
        return true;
    }

    private static boolean has(int set, int member) {
        return (set >> member & 1) != 0;
    }

    private static int without(int set, int member) {
        return set & ~(1 << member);
    }

    /** The set of the numbers less than size. */
    private static int lowest(int size) {
        return (1 << size) - 1;
    }

    /** The sign that a minor's expansion gives to a member of the set of its rows or columns. */
    private static long signed(long value, int set, int member) {
        return (Integer.bitCount(set >> member >> 1) & 1) == 0 ? value : -value;
    }

    private static long quotient(long value, long divisor) {
        return divisor == 0 ? 0 : value / divisor;
    }

    /** Modulo 0, which stands for the integers, a number stays as it is. */
    private static long remainder(long value, long modulus) {
        return modulus <= 0 ? value : Math.floorMod(value, modulus);
    }

    private static long commonDivisor(long a, long b) {
        long greater = Math.abs(a);
        long less = Math.abs(b);
        // Each two steps halve the numbers, so that the bound is never met.
        for (int step = 0; step < 200 && less != 0; step++) {
            long rest = greater % less;
            greater = less;
            less = rest;
        }
        return greater;
    }

    /** At most 6 rows and 6 columns of numbers. */
    private static final class Matrix {
        int height;
        int width;
        private final long[] cells;

        Matrix(int height, int width) {
            this.height = height;
            this.width = width;
            cells = new long[SIDE * SIDE];
        }

        void reset(int newHeight, int newWidth) {
            height = newHeight;
            width = newWidth;
            for (int i = 0; i < cells.length; i++) {
                cells[i] = 0;
            }
        }

        void copyFrom(Matrix other) {
            height = other.height;
            width = other.width;
            for (int i = 0; i < cells.length && i < other.cells.length; i++) {
                cells[i] = other.cells[i];
            }
        }

        long at(int row, int column) {
            boolean isInside = row >= 0 && row < SIDE && column >= 0 && column < SIDE;
            return isInside ? cells[row * SIDE + column] : 0;
        }

        void put(int row, int column, long value) {
            if (row >= 0 && row < SIDE && column >= 0 && column < SIDE) {
                cells[row * SIDE + column] = value;
            }
        }

        int allRows() {
            return lowest(height);
        }

        int allColumns() {
            return lowest(width);
        }

        int filledCells() {
            int filled = 0;
            for (int row = 0; row < height; row++) {
                for (int column = 0; column < width; column++) {
                    if (at(row, column) != 0) {
                        filled++;
                    }
                }
            }
            return filled;
        }

        void turnFrom(Matrix other) {
            reset(other.width, other.height);
            for (int row = 0; row < height; row++) {
                for (int column = 0; column < width; column++) {
                    put(row, column, other.at(column, row));
                }
            }
        }

        void exchangeRows(int a, int b) {
            for (int column = 0; column < width; column++) {
                long value = at(a, column);
                put(a, column, at(b, column));
                put(b, column, value);
            }
        }

        void exchangeColumns(int a, int b) {
            for (int row = 0; row < height; row++) {
                long value = at(row, a);
                put(row, a, at(row, b));
                put(row, b, value);
            }
        }

        boolean hasRoomForMultiple(int a, int b, int factor) {
            for (int column = 0; column < width; column++) {
                if (Math.abs(at(a, column) + factor * at(b, column)) > LARGEST_ENTRY) {
                    return false;
                }
            }
            return true;
        }

        void addMultiple(int a, int b, int factor) {
            for (int column = 0; column < width; column++) {
                put(a, column, at(a, column) + factor * at(b, column));
            }
        }

        /** Adds the first row of another matrix behind the rows. */
        void addLine(Matrix line) {
            if (height < SIDE) {
                for (int column = 0; column < width; column++) {
                    put(height, column, line.at(0, column));
                }
                height++;
            }
        }

        void dropLine(int line) {
            for (int row = line; row < height; row++) {
                for (int column = 0; column < width; column++) {
                    put(row, column, at(row + 1, column));
                }
            }
            height--;
        }

        /** The sum of a row's numbers times the entries of a column of another matrix. */
        long combination(int row, Matrix other, int column) {
            long sum = 0;
            for (int k = 0; k < width; k++) {
                sum += at(row, k) * other.at(k, column);
            }
            return sum;
        }
    }

    /** Ranks, minors and relations of matrices; it uses its own matrices again in each call. */
    private static final class Reckoner {
        private final Matrix relation;
        private final Matrix work;
        private final Matrix other;
        private final long[] minors;

        Reckoner() {
            relation = new Matrix(1, 1);
            work = new Matrix(1, 1);
            other = new Matrix(1, 1);
            minors = new long[SETS];
        }

        Matrix turned(Matrix matrix) {
            other.turnFrom(matrix);
            return other;
        }

        int fullRank(Matrix matrix, int m) {
            return partRank(matrix, m, matrix.allRows(), matrix.allColumns());
        }

        int cornerRank(Matrix matrix, int m, int height, int width) {
            return partRank(matrix, m, lowest(height), lowest(width));
        }

        int partRank(Matrix matrix, int m, int rows, int columns) {
            gather(matrix, m, rows, columns);
            return eliminate(m, false);
        }

        private void gather(Matrix matrix, int m, int rows, int columns) {
            work.reset(0, Integer.bitCount(columns));
            for (int row = 0; row < matrix.height; row++) {
                if (has(rows, row)) {
                    int place = 0;
                    for (int column = 0; column < matrix.width; column++) {
                        if (has(columns, column)) {
                            work.put(work.height, place, remainder(matrix.at(row, column), m));
                            place++;
                        }
                    }
                    work.height++;
                }
            }
        }

        /**
         * Returns the rank of work. Over the integers each number divides by the pivot ahead of the latest one,
         * because all numbers are minors then; so none gets greater than the products of two minors.
         */
        private int eliminate(int m, boolean alsoAbove) {
            int rank = 0;
            long earlierPivot = 1;
            for (int column = 0; column < work.width && rank < work.height; column++) {
                int row = filledRow(rank, column);
                if (row != NONE) {
                    work.exchangeRows(row, rank);
                    for (int k = alsoAbove ? 0 : rank + 1; k < work.height; k++) {
                        if (k != rank) {
                            clearCell(k, column, rank, m, earlierPivot);
                        }
                    }
                    earlierPivot = work.at(rank, column);
                    rank++;
                }
            }
            return rank;
        }

        private int filledRow(int from, int column) {
            for (int row = from; row < work.height; row++) {
                if (work.at(row, column) != 0) {
                    return row;
                }
            }
            return NONE;
        }

        private void clearCell(int row, int column, int pivotRow, int m, long earlierPivot) {
            long pivot = work.at(pivotRow, column);
            long factor = work.at(row, column);
            for (int k = 0; k < work.width; k++) {
                long value = pivot * work.at(row, k) - factor * work.at(pivotRow, k);
                work.put(row, k, m == INTEGERS ? quotient(value, earlierPivot) : remainder(value, m));
            }
        }

        Matrix echelonForm(Matrix matrix, int m) {
            gather(matrix, m, matrix.allRows(), matrix.allColumns());
            work.height = eliminate(m, true);
            for (int row = 0; row < work.height; row++) {
                long scale = inverse(firstFilled(row), m);
                for (int column = 0; column < work.width; column++) {
                    work.put(row, column, remainder(scale * work.at(row, column), m));
                }
            }
            return work;
        }

        private long firstFilled(int row) {
            for (int column = 0; column < work.width; column++) {
                if (work.at(row, column) != 0) {
                    return work.at(row, column);
                }
            }
            return 0;
        }

        private long inverse(long number, int prime) {
            for (int inverse = 1; inverse < prime; inverse++) {
                if (remainder(number * inverse, prime) == 1) {
                    return inverse;
                }
            }
            return 0;
        }

        int profileOfRows(Matrix matrix, int m) {
            int profile = 0;
            for (int row = 0; row < matrix.height; row++) {
                if (partRank(matrix, m, lowest(row + 1), matrix.allColumns()) > Integer.bitCount(profile)) {
                    profile |= 1 << row;
                }
            }
            return profile;
        }

        /** The column profile of the part with these rows and all columns. */
        int profileOfColumns(Matrix matrix, int m, int rows) {
            int profile = 0;
            for (int column = 0; column < matrix.width; column++) {
                if (partRank(matrix, m, rows, lowest(column + 1)) > Integer.bitCount(profile)) {
                    profile |= 1 << column;
                }
            }
            return profile;
        }

        int pivotColumn(Matrix matrix, int m, int row) {
            for (int column = 0; column < matrix.width; column++) {
                int less = cornerRank(matrix, m, row + 1, column + 1) - 1;
                if (cornerRank(matrix, m, row, column + 1) == less
                        && cornerRank(matrix, m, row + 1, column) == less
                        && cornerRank(matrix, m, row, column) == less) {
                    return column;
                }
            }
            return NONE;
        }

        int countSpoilers(Matrix matrix, int row, int column) {
            int rank = fullRank(matrix, INTEGERS);
            int spoilers = 0;
            other.copyFrom(matrix);
            for (int value = -LARGEST_ENTRY; value <= LARGEST_ENTRY; value++) {
                other.put(row, column, value);
                if (fullRank(other, INTEGERS) != rank) {
                    spoilers++;
                }
            }
            return spoilers;
        }

        long minorOf(Matrix matrix, int rows, int columns) {
            expandMinors(matrix, rows);
            return minorAt(columns);
        }

        private long minorAt(int columns) {
            return columns >= 0 && columns < minors.length ? minors[columns] : 0;
        }

        /** Makes, for each set of columns, the minor with as many of these rows, the first ones. */
        private void expandMinors(Matrix matrix, int rows) {
            for (int columns = 0; columns < minors.length; columns++) {
                int row = memberAt(rows, Integer.bitCount(columns) - 1);
                long sum = columns == 0 ? 1 : 0;
                for (int column = 0; column < matrix.width && row != NONE; column++) {
                    if (has(columns, column)) {
                        long term = matrix.at(row, column) * minorAt(without(columns, column));
                        sum += signed(term, columns, column);
                    }
                }
                minors[columns] = sum;
            }
        }

        private int memberAt(int set, int place) {
            int left = place;
            for (int member = 0; member < SIDE; member++) {
                if (has(set, member)) {
                    if (left == 0) {
                        return member;
                    }
                    left--;
                }
            }
            return NONE;
        }

        long minorDivisor(Matrix matrix, int size) {
            long divisor = 0;
            for (int rows = 0; rows <= matrix.allRows(); rows++) {
                if (Integer.bitCount(rows) == size) {
                    expandMinors(matrix, rows);
                    for (int columns = 0; columns <= matrix.allColumns(); columns++) {
                        if (Integer.bitCount(columns) == size) {
                            divisor = commonDivisor(divisor, minorAt(columns));
                        }
                    }
                }
            }
            return divisor;
        }

        /** The relation, as a matrix of one row, of a row that is not in the row profile. */
        Matrix relationOfRow(Matrix matrix, int m, int row) {
            int basis = profileOfRows(matrix, m) & lowest(row);
            int columns = profileOfColumns(matrix, m, basis);
            int rows = basis | 1 << row;
            // All minors with one more column are 0; expanded by that column they tell the relation.
            relation.reset(1, matrix.height);
            for (int k = 0; k < matrix.height; k++) {
                if (has(rows, k)) {
                    relation.put(0, k, signed(minorOf(matrix, without(rows, k), columns), rows, k));
                }
            }
            scaleRelation(m, row);
            return relation;
        }

        private void scaleRelation(int m, int row) {
            long own = relation.at(0, row);
            long divisor = own < 0 ? -divisorOfRelation() : divisorOfRelation();
            long scale = inverse(own, m);
            for (int k = 0; k < relation.width; k++) {
                long value = relation.at(0, k);
                relation.put(0, k, m == INTEGERS ? quotient(value, divisor) : remainder(value * scale, m));
            }
        }

        private long divisorOfRelation() {
            long divisor = 0;
            for (int k = 0; k < relation.width; k++) {
                divisor = commonDivisor(divisor, relation.at(0, k));
            }
            return divisor;
        }

        void makeGuess(Guess guess, Matrix matrix, int place, int prime) {
            guess.place = place;
            guess.rows = profileOfRows(matrix, prime);
            guess.columns = profileOfColumns(matrix, prime, matrix.allRows());
            guess.rank = fullRank(matrix, prime);
        }

        int faultOf(Guess guess, Matrix matrix) {
            if (guess.rank != fullRank(matrix, INTEGERS)) {
                return 1;
            }
            if (guess.rows != profileOfRows(matrix, INTEGERS)) {
                return 2;
            }
            return guess.columns != profileOfColumns(matrix, INTEGERS, matrix.allRows()) ? 3 : 0;
        }
    }

    /** Sets of rows: those that are independent, bases, circuits and closures. */
    private static final class RowSets {
        private final Reckoner reckoner;
        private final boolean[] areFree;

        RowSets(Reckoner reckoner) {
            this.reckoner = reckoner;
            areFree = new boolean[SETS];
        }

        boolean isFree(Matrix matrix, int m, int rows) {
            return reckoner.partRank(matrix, m, rows, matrix.allColumns()) == Integer.bitCount(rows);
        }

        /** The set of the rows that add nothing to the rank of these rows. */
        int span(Matrix matrix, int m, int rows) {
            int columns = matrix.allColumns();
            int rank = reckoner.partRank(matrix, m, rows, columns);
            int span = 0;
            for (int row = 0; row < matrix.height; row++) {
                if (reckoner.partRank(matrix, m, rows | 1 << row, columns) == rank) {
                    span |= 1 << row;
                }
            }
            return span;
        }

        /** A set with a bit that stands for no row counts as not independent, for its rank is less. */
        private void survey(Matrix matrix, int m) {
            for (int rows = 0; rows < areFree.length; rows++) {
                int rank = reckoner.partRank(matrix, m, rows, matrix.allColumns());
                areFree[rows] = rank == Integer.bitCount(rows);
            }
        }

        int countBases(Matrix matrix, int m) {
            int rank = reckoner.fullRank(matrix, m);
            int bases = 0;
            survey(matrix, m);
            for (int rows = 0; rows < areFree.length; rows++) {
                if (areFree[rows] && Integer.bitCount(rows) == rank) {
                    bases++;
                }
            }
            return bases;
        }

        int countCircuits(Matrix matrix, int m) {
            int circuits = 0;
            survey(matrix, m);
            for (int rows = 1; rows <= matrix.allRows(); rows++) {
                if (isCircuit(rows)) {
                    circuits++;
                }
            }
            return circuits;
        }

        int leastCircuit(Matrix matrix, int m, int row) {
            survey(matrix, m);
            for (int rows = 1; rows <= matrix.allRows(); rows++) {
                if (has(rows, row) && isCircuit(rows)) {
                    return rows;
                }
            }
            return NONE;
        }

        private boolean isSurveyedFree(int rows) {
            return rows >= 0 && rows < areFree.length && areFree[rows];
        }

        private boolean isCircuit(int rows) {
            if (isSurveyedFree(rows)) {
                return false;
            }
            for (int row = 0; row < SIDE; row++) {
                if (has(rows, row) && !isSurveyedFree(without(rows, row))) {
                    return false;
                }
            }
            return true;
        }
    }

    /** What a prime tells of the ranks; without a guess all is NONE. */
    private static final class Guess {
        int place;
        int rank;
        int rows;
        int columns;

        Guess() {
            clear();
        }

        void clear() {
            place = NONE;
            rank = NONE;
            rows = NONE;
            columns = NONE;
        }

        void copyFrom(Guess other) {
            place = other.place;
            rank = other.rank;
            rows = other.rows;
            columns = other.columns;
        }

        boolean isMade() {
            return place != NONE;
        }

        boolean isSameAs(Guess other) {
            return place == other.place && rank == other.rank && rows == other.rows && columns == other.columns;
        }

        int valueOf(int what) {
            switch (what) {
                case 0:
                    return place;
                case 1:
                    return rank;
                case 2:
                    return rows;
                case 3:
                    return columns;
                default:
                    return NONE;
            }
        }
    }

    /** The vector and the relations, each a line of a matrix, and the claim, whose sets are NONE if there is none. */
    private static final class Certificate {
        final Matrix vector;
        final Matrix relations;
        int claimedRows;
        int claimedColumns;

        Certificate() {
            vector = new Matrix(1, 1);
            relations = new Matrix(0, 1);
            claimedRows = NONE;
            claimedColumns = NONE;
        }

        void clear(int rowCount) {
            vector.reset(1, rowCount);
            relations.reset(0, rowCount);
            setClaim(NONE, NONE);
        }

        void copyFrom(Certificate other) {
            vector.copyFrom(other.vector);
            relations.copyFrom(other.relations);
            setClaim(other.claimedRows, other.claimedColumns);
        }

        boolean hasClaim() {
            return claimedRows != NONE;
        }

        void setClaim(int rows, int columns) {
            claimedRows = rows;
            claimedColumns = columns;
        }

        int headOf(int relation) {
            for (int row = relations.width - 1; row >= 0; row--) {
                if (relations.at(relation, row) != 0) {
                    return row;
                }
            }
            return NONE;
        }

        boolean isTrue(int relation, Matrix matrix) {
            for (int column = 0; column < matrix.width; column++) {
                if (relations.combination(relation, matrix, column) != 0) {
                    return false;
                }
            }
            return true;
        }

        boolean areAllTrue(Matrix matrix) {
            for (int relation = 0; relation < relations.height; relation++) {
                if (!isTrue(relation, matrix)) {
                    return false;
                }
            }
            return true;
        }

        boolean hasTwinHeads() {
            int heads = 0;
            for (int relation = 0; relation < relations.height; relation++) {
                int head = headOf(relation);
                if (has(heads, head)) {
                    return true;
                }
                heads |= 1 << head;
            }
            return false;
        }
    }

    /** All that undo() restores. */
    private static final class State {
        final Matrix matrix;
        final Guess guess;
        final Certificate certificate;
        int primeCount;
        int newProbes;
        int repairTries;
        private final int[] primes;

        State() {
            matrix = new Matrix(1, 1);
            guess = new Guess();
            certificate = new Certificate();
            primes = new int[SIDE];
        }

        void reset(int rows, int columns) {
            matrix.reset(rows, columns);
            guess.clear();
            certificate.clear(rows);
            primeCount = 0;
            newProbes = 0;
            repairTries = 0;
        }

        void copyFrom(State other) {
            matrix.copyFrom(other.matrix);
            guess.copyFrom(other.guess);
            certificate.copyFrom(other.certificate);
            primeCount = other.primeCount;
            newProbes = other.newProbes;
            repairTries = other.repairTries;
            for (int place = 0; place < primes.length && place < other.primes.length; place++) {
                primes[place] = other.primes[place];
            }
        }

        int primeAt(int place) {
            return place >= 0 && place < primes.length ? primes[place] : NONE;
        }

        boolean hasPrime(int number) {
            for (int place = 0; place < primeCount; place++) {
                if (primeAt(place) == number) {
                    return true;
                }
            }
            return false;
        }

        void addPrime(int number) {
            if (primeCount >= 0 && primeCount < primes.length) {
                primes[primeCount] = number;
                primeCount++;
            }
        }
    }

    /** The states ahead of the last calls, in a ring, so that no call makes a new one. */
    private static final class History {
        int size;
        private int top;
        private final State[] ring;

        History() {
            ring = new State[SIDE];
            for (int i = 0; i < ring.length; i++) {
                ring[i] = new State();
            }
        }

        void push(State state) {
            State place = stateAt(top);
            if (place != null) {
                place.copyFrom(state);
                top = top + 1 < ring.length ? top + 1 : 0;
                size = Math.min(size + 1, ring.length);
            }
        }

        void popInto(State state) {
            int latest = top > 0 ? top - 1 : ring.length - 1;
            State place = stateAt(latest);
            if (place != null && size > 0) {
                state.copyFrom(place);
                top = latest;
                size--;
            }
        }

        private State stateAt(int index) {
            return index >= 0 && index < ring.length ? ring[index] : null;
        }
    }

    private static final class Input {
        int length;
        private final int[] bytes;

        Input() {
            bytes = new int[400];
        }

        boolean hasRoomFor(int count) {
            return length + count <= bytes.length;
        }

        void addWord(int word) {
            for (int shift = 24; shift >= 0; shift -= 8) {
                if (length >= 0 && length < bytes.length) {
                    bytes[length] = word >>> shift & 255;
                    length++;
                }
            }
        }

        int byteAt(int index) {
            return index >= 0 && index < length && index < bytes.length ? bytes[index] : NONE;
        }
    }

    /** Reads the input buffer into a draft, so that a text with an error changes nothing else. */
    private static final class Parser {
        private static final int END = 0;
        private static final int WORD = 1;
        private static final int NUMBER = 2;
        private static final int SYMBOL = 3;
        private static final int MISPLACED = 1;
        private static final int OUT_OF_RANGE = 2;
        private static final int NOT_PRIME = 3;
        private static final int TOLD_ALREADY = 4;
        private static final int TOO_MANY = 5;
        private static final int HUGE = 1000;

        int rowsTold;
        int errorCode;
        int errorPosition;
        private final Input input;
        private final State draft;
        private int kind;
        private int start;
        private int end;
        private int number;

        Parser(Input input, State draft) {
            this.input = input;
            this.draft = draft;
            errorPosition = NONE;
        }

        boolean parse() {
            errorCode = 0;
            errorPosition = NONE;
            rowsTold = 0;
            end = 0;
            next();
            boolean isRight = parseMatrix();
            // Each statement takes a byte at least.
            for (int i = 0; i < input.length && isRight && kind != END; i++) {
                if (isWord("row")) {
                    isRight = parseRow();
                } else {
                    isRight = isWord("prime") ? parsePrime() : fail(MISPLACED);
                }
            }
            return isRight;
        }

        private boolean parseMatrix() {
            if (!isWord("matrix")) {
                return fail(MISPLACED);
            }
            next();
            if (!isNumberFrom(1, SIDE)) {
                return false;
            }
            int rows = number;
            next();
            if (!isNumberFrom(1, SIDE)) {
                return false;
            }
            draft.reset(rows, number);
            next();
            return passSymbol(';');
        }

        private boolean parseRow() {
            if (rowsTold >= draft.matrix.height) {
                return fail(TOO_MANY);
            }
            next();
            for (int column = 0; column < draft.matrix.width; column++) {
                boolean isLast = column == draft.matrix.width - 1;
                if (!parseEntry(column) || !passSymbol(isLast ? ';' : ',')) {
                    return false;
                }
            }
            rowsTold++;
            return true;
        }

        private boolean parseEntry(int column) {
            boolean isNegative = isSymbol('-');
            if (isNegative) {
                next();
            }
            if (!isNumberFrom(0, LARGEST_ENTRY)) {
                return false;
            }
            draft.matrix.put(rowsTold, column, isNegative ? -number : number);
            next();
            return true;
        }

        private boolean parsePrime() {
            if (draft.primeCount >= SIDE) {
                return fail(TOO_MANY);
            }
            next();
            if (!isNumberFrom(2, LARGEST_PRIME)) {
                return false;
            }
            if (!isPrime(number)) {
                return fail(NOT_PRIME);
            }
            if (draft.hasPrime(number)) {
                return fail(TOLD_ALREADY);
            }
            draft.addPrime(number);
            next();
            return passSymbol(';');
        }

        private boolean fail(int code) {
            errorCode = code;
            errorPosition = start;
            return false;
        }

        private boolean isNumberFrom(int least, int greatest) {
            if (kind != NUMBER) {
                return fail(MISPLACED);
            }
            return number >= least && number <= greatest || fail(OUT_OF_RANGE);
        }

        private boolean isSymbol(int symbol) {
            return kind == SYMBOL && input.byteAt(start) == symbol;
        }

        private boolean passSymbol(int symbol) {
            if (!isSymbol(symbol)) {
                return fail(MISPLACED);
            }
            next();
            return true;
        }

        private boolean isWord(String word) {
            if (kind != WORD || end - start != word.length()) {
                return false;
            }
            for (int i = 0; i < word.length(); i++) {
                if (input.byteAt(start + i) != word.charAt(i)) {
                    return false;
                }
            }
            return true;
        }

        private void next() {
            for (int i = end; i < input.length && isBlank(input.byteAt(i)); i++) {
                end = i + 1;
            }
            start = end;
            int first = input.byteAt(start);
            if (start >= input.length) {
                kind = END;
            } else if (isLetter(first)) {
                kind = WORD;
                passWord();
            } else if (isDigit(first)) {
                kind = NUMBER;
                passNumber();
            } else {
                kind = SYMBOL;
                end = start + 1;
            }
        }

        private void passWord() {
            for (int i = start; i < input.length && isLetter(input.byteAt(i)); i++) {
                end = i + 1;
            }
        }

        private void passNumber() {
            number = 0;
            for (int i = start; i < input.length && isDigit(input.byteAt(i)); i++) {
                // A number has any length; all that are far out of range count as the same one.
                number = Math.min(number * 10 + input.byteAt(i) - '0', HUGE);
                end = i + 1;
            }
        }

        private static boolean isBlank(int value) {
            return value == ' ' || value == '\n';
        }

        private static boolean isLetter(int value) {
            return value >= 'a' && value <= 'z';
        }

        private static boolean isDigit(int value) {
            return value >= '0' && value <= '9';
        }
    }

    private static final class Output {
        int length;
        private final int[] bytes;

        Output() {
            // The longest text is a certificate's: 37 bytes of a claim and 36 numbers of at most 11 bytes each.
            bytes = new int[1000];
        }

        void clear() {
            length = 0;
        }

        int byteAt(int index) {
            return index >= 0 && index < length && index < bytes.length ? bytes[index] : NONE;
        }

        private void addByte(int value) {
            if (length >= 0 && length < bytes.length) {
                bytes[length] = value;
                length++;
            }
        }

        void addText(String text) {
            for (int i = 0; i < text.length(); i++) {
                addByte(text.charAt(i));
            }
        }

        /** Adds a space, but not at the beginning of the output. */
        void addSeparator() {
            if (length > 0) {
                addByte(' ');
            }
        }

        void addNumber(long number) {
            long rest = Math.abs(number);
            long unit = 1;
            for (int i = 0; i < 18 && unit <= rest / 10; i++) {
                unit *= 10;
            }
            if (number < 0) {
                addByte('-');
            }
            for (int i = 0; i < 19 && unit > 0; i++) {
                addByte('0' + (int) (rest / unit % 10));
                unit /= 10;
            }
        }

        void addSet(int set) {
            for (int member = 0; member < SIDE; member++) {
                if (has(set, member)) {
                    addByte(' ');
                    addNumber(member);
                }
            }
        }

        void addLines(Matrix matrix) {
            for (int row = 0; row < matrix.height; row++) {
                for (int column = 0; column < matrix.width; column++) {
                    if (column > 0) {
                        addByte(' ');
                    }
                    addNumber(matrix.at(row, column));
                }
                addByte('\n');
            }
        }
    }
}
