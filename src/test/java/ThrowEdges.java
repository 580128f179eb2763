/** The edges of the section EXCEPTIONS, and of the number of calls. */
final class ThrowEdges {
    private ThrowEdges() {
    }

    private static int is(boolean value) {
        return value ? 1 : 0;
    }

    private static void refuses(String exception, Edge.Ask... calls) {
        for (Edge.Ask call : calls) {
            Edge.refuses(Edge::full, call, exception);
        }
    }

    /** A column number that is no row number, and the other way round. */
    private static void shapes() {
        Edge.says("EXCEPTIONS", "A row, column, prime number (by its place), relation or slot that does not exist causes an "
                + "IndexOutOfBoundsException; another value that is out of range causes an IllegalArgumentException, so "
                + "does a set that has a bit that stands for no row or column.");
        Edge.Maker wide = Edge.text(RankEdges.WIDE);
        Edge.Maker tall = Edge.text(RankEdges.TALL);
        Edge.Ask[] noRow = {d -> d.entry(2, 0), d -> d.pivot(0, 2), d -> d.relation(2, 0), d -> d.relation(0, 2),
            d -> d.relationMod(2, 2, 0), d -> d.relationMod(2, 1, 2), d -> d.weight(2), d -> is(d.isNeeded(0, 2)),
            d -> d.circuit(0, 2), d -> d.spoils(2, 0), d -> d.vector(2), d -> d.setEntry(2, 0, 0), d -> d.swapRows(2, 0),
            d -> d.swapRows(0, 2), d -> d.addRow(2, 0, 0), d -> d.addRow(0, 2, 0), d -> d.negateRow(2),
            d -> d.setVector(2, 0), d -> d.writeRelation(2)};
        for (Edge.Ask call : noRow) {
            Edge.refuses(wide, call, Edge.OUTSIDE);
        }
        Edge.Ask[] noColumn = {d -> d.entry(0, 2), d -> d.columnRelation(2, 0), d -> d.columnRelation(0, 2),
            d -> d.spoils(0, 2), d -> d.product(2), d -> d.setEntry(0, 2, 0), d -> d.swapColumns(2, 0),
            d -> d.swapColumns(0, 2)};
        for (Edge.Ask call : noColumn) {
            Edge.refuses(tall, call, Edge.OUTSIDE);
        }
        refuses(Edge.OUTSIDE, d -> d.prime(3), d -> d.probe(3), d -> d.relationOf(2, 0), d -> d.head(2),
                d -> is(d.holds(2)), d -> d.dropRelation(2), d -> d.keep(2), d -> d.restore(2), d -> d.outputByte(12));
        refuses(Edge.BAD_VALUE, d -> d.count(7), d -> d.divisor(7), d -> d.invariant(0), d -> d.nextUnlucky(1),
                d -> d.guessed(0, 0, 4), d -> d.guess(5), d -> d.claimed(2), d -> d.setEntry(0, 0, 21),
                d -> d.addRow(0, 1, 10), d -> d.setVector(0, 10000), d -> d.rankOf(0, 8, 0), d -> d.rankOf(0, 0, 8),
                d -> d.minor(8, 1), d -> d.closure(0, 8), d -> d.extensions(0, 8), d -> is(d.areIndependent(0, 8)),
                d -> d.claim(8, 8));
    }

    private static void severalExceptions() {
        Edge.says("EXCEPTIONS", "If several exceptions apply, the one that is named first in the method's throws clause is "
                + "thrown.");
        // The row does not exist, and the modulus, the value or the factor is out of range, or the profile is met.
        refuses(Edge.OUTSIDE, d -> d.pivot(1, 3), d -> d.pivot(-1, -1), d -> is(d.isNeeded(4, 3)),
                d -> is(d.isNeeded(98, -1)), d -> d.circuit(1, 3), d -> d.circuit(-2, -1), d -> d.relationMod(0, 3, 0),
                d -> d.relationMod(4, 0, 3), d -> d.relationMod(1, -1, -1), d -> d.setEntry(3, 0, 21),
                d -> d.setEntry(0, 3, -21), d -> d.setVector(3, 10000), d -> d.setVector(-1, -10000));
        refuses(Edge.OUTSIDE, d -> d.relation(0, 3), d -> d.relation(2, -1), d -> d.columnRelation(0, 3),
                d -> d.columnRelation(1, -1), d -> d.relationMod(2, 1, 3), d -> d.relationMod(2, 2, -1));
        // Behind it the modulus, and then the profile.
        refuses(Edge.BAD_VALUE, d -> d.relationMod(0, 0, 0), d -> d.relationMod(0, 2, 0), d -> d.relationMod(9, 2, 0));
        refuses(Edge.MISSING, d -> d.relationMod(2, 1, 0), d -> d.relation(0, 0), d -> d.columnRelation(0, 0));
        // addRow(): the row, then the same row or the factor, then the entries.
        Edge.Maker twenties = Edge.text("matrix 2 1;row 20;row 20;");
        int[][] outside = {{2, 2, 10}, {2, 2, 1}, {0, 2, 10}, {2, 0, 9}, {0, 2, 9}, {-1, -1, 0}};
        for (int[] call : outside) {
            Edge.refuses(twenties, d -> d.addRow(call[0], call[1], call[2]), Edge.OUTSIDE);
        }
        for (int[] call : new int[][] {{0, 0, 9}, {1, 1, 10}, {0, 1, 10}, {1, 0, -10}}) {
            Edge.refuses(twenties, d -> d.addRow(call[0], call[1], call[2]), Edge.BAD_VALUE);
        }
        Edge.refuses(twenties, d -> d.addRow(0, 1, 9), Edge.BAD_STATE);
        Edge.refuses(twenties, d -> d.addRow(0, 1, 1), Edge.BAD_STATE);
        Edge.answers(twenties, d -> d.addRow(0, 1, -1), 1);
        // No such slot, and nothing is kept in any.
        Edge.refuses(RankDesk::new, d -> d.restore(2), Edge.OUTSIDE);
        Edge.refuses(RankDesk::new, d -> d.restore(-1), Edge.OUTSIDE);
    }

    private static void asking() {
        Edge.says("EXCEPTIONS", "Methods that ask what would be do not change anything.");
        long[] due = {40, 6, 7, -28, 3, 1};
        Edge.Ask[] calls = {d -> d.spoils(0, 0), d -> d.extensions(2, 0), d -> d.closure(0, 6), d -> d.guessed(5, 5, 3),
            d -> d.circuit(0, 0), d -> is(d.isNeeded(0, 2))};
        for (int i = 0; i < calls.length; i++) {
            Edge.asks(Edge::full, calls[i], due[i]);
        }
        Edge.says("EXCEPTIONS", "A call that throws changes nothing.");
        // The working room of one call is not seen by the next one, also behind a call that throws.
        RankDesk desk = Edge.full();
        String before = View.NOW.of(desk);
        for (int i = 0; i < 8; i++) {
            int number = i;
            Edge.same(Check.told(() -> desk.spoils(3, 3)), Edge.OUTSIDE);
            Edge.same(Check.told(() -> desk.relation(0, 0)), Edge.MISSING);
            Edge.same(Check.told(() -> desk.writeEchelon(0)), Edge.BAD_VALUE);
            Edge.same(Check.told(() -> desk.writeRelation(2)), Edge.MISSING);
            Edge.same(Check.told(() -> desk.addRow(0, 2, 9)), Edge.BAD_STATE);
            Edge.same(Check.told(() -> desk.restore(0)), Edge.BAD_STATE);
            Edge.same(Check.told(() -> desk.claim(number, 8)), Edge.BAD_VALUE);
        }
        Edge.same(View.NOW.of(desk), before);
        Edge.same(View.OUTPUT.of(desk), View.OUTPUT.of(Edge.full()));
        Edge.same(View.PAST.of(desk), View.PAST.of(Edge.full()));
    }

    private static void callsInAll() {
        Edge.says("## What it is", "An object is used for at most 512 calls after it has been made");
        RankDesk desk = new RankDesk();
        for (int call = 1; call <= 511; call++) {
            Edge.same(desk.setEntry(0, 0, call % 21), (call - 1) % 21);
        }
        Edge.same(desk.entry(0, 0), 511 % 21);
    }

    static void run() {
        shapes();
        severalExceptions();
        asking();
        callsInAll();
    }
}
