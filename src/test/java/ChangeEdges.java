import java.util.ArrayList;
import java.util.List;

/** The edges of the section UNDO and of the promises 42 to 47 and 56 to 59. */
final class ChangeEdges {
    private static final String WIDE = RankEdges.WIDE;
    private static final String TALL = RankEdges.TALL;

    private ChangeEdges() {
    }

    private static void becomes(Edge.Maker maker, Edge.Ask change, String matrix) {
        RankDesk desk = maker.make();
        change.of(desk);
        Edge.same(Desks.matrix(desk), matrix);
    }

    private static void entries() {
        Edge.says("42", "- `value`: -20 to 20");
        Edge.ranges(Edge::full, -20, 20, (desk, value) -> desk.setEntry(0, 0, value), 2, 2);
        Edge.ranges(RankDesk::new, -20, 20, (desk, value) -> desk.setEntry(0, 0, value), 0, 0);
        Edge.says("42", "Returns the previous entry.");
        RankDesk desk = new RankDesk();
        int previous = 0;
        for (int value : new int[] {-20, 20, 0, 1, -1, 7, 7}) {
            Edge.same(desk.setEntry(0, 0, value), previous);
            Edge.same(desk.entry(0, 0), value);
            previous = value;
        }
        becomes(Edge.text(WIDE), wide -> wide.setEntry(1, 3, 20), "1 2 3 4\n5 6 7 20\n");
        becomes(Edge.text(WIDE), wide -> wide.setEntry(0, 0, -20), "-20 2 3 4\n5 6 7 -8\n");
        Edge.leaves(Edge::full, full -> full.setEntry(1, 2, 9), "3", View.NOW, View.PAST);
        Edge.says("42", "Throws `IndexOutOfBoundsException` if there is no such row or column");
        Edge.numbered(Edge.text(WIDE), 2, (wide, row) -> wide.setEntry(row, 3, 0), 4, -8);
        Edge.numbered(Edge.text(WIDE), 4, (wide, column) -> wide.setEntry(1, column, 0), 5, -8);
        Edge.numbered(Edge.text(TALL), 4, (tall, row) -> tall.setEntry(row, 1, 0), 0, 1);
        Edge.numbered(Edge.text(TALL), 2, (tall, column) -> tall.setEntry(3, column, 0), 1, 1);
        Edge.says("42", "Throws `IllegalArgumentException` if value is out of range");
        for (int value : new int[] {-22, -21, 21, 22, 256, -256}) {
            Edge.refuses(Edge::full, full -> full.setEntry(2, 2, value), Edge.BAD_VALUE);
        }
    }

    private static void swaps() {
        Edge.says("43", "Returns the rank.");
        Edge.answers(Edge::full, desk -> desk.swapRows(0, 2), 2);
        Edge.answers(Edge.text("matrix 2 1;row 1;row 2;"), desk -> desk.swapRows(0, 1), 1);
        Edge.answers(RankDesk::new, desk -> desk.swapRows(0, 0), 0);
        becomes(Edge.text(TALL), desk -> desk.swapRows(0, 3), "1 1\n6 0\n0 5\n3 0\n");
        becomes(Edge.text(TALL), desk -> desk.swapRows(3, 0), "1 1\n6 0\n0 5\n3 0\n");
        becomes(Edge.text(TALL), desk -> desk.swapRows(2, 2), "3 0\n6 0\n0 5\n1 1\n");
        Edge.leaves(Edge::full, desk -> desk.swapRows(0, 1), "2", View.NOW, View.PAST);
        Edge.says("43", "Throws `IndexOutOfBoundsException` if there is no such row");
        Edge.numbered(Edge.text(TALL), 4, (desk, a) -> desk.swapRows(a, 0), 2, 2);
        Edge.numbered(Edge.text(TALL), 4, (desk, b) -> desk.swapRows(3, b), 2, 2);
        Edge.numbered(Edge.text(WIDE), 2, (desk, a) -> desk.swapRows(a, a), 2, 2);
        Edge.says("44", "Returns the rank.");
        Edge.answers(Edge::full, desk -> desk.swapColumns(0, 2), 2);
        Edge.answers(RankDesk::new, desk -> desk.swapColumns(0, 0), 0);
        becomes(Edge.text(WIDE), desk -> desk.swapColumns(0, 3), "4 2 3 1\n-8 6 7 5\n");
        becomes(Edge.text(WIDE), desk -> desk.swapColumns(3, 0), "4 2 3 1\n-8 6 7 5\n");
        becomes(Edge.text(WIDE), desk -> desk.swapColumns(3, 3), "1 2 3 4\n5 6 7 -8\n");
        Edge.leaves(Edge::full, desk -> desk.swapColumns(0, 1), "2", View.NOW, View.PAST);
        Edge.says("44", "Throws `IndexOutOfBoundsException` if there is no such column");
        Edge.numbered(Edge.text(WIDE), 4, (desk, a) -> desk.swapColumns(a, 0), 2, 2);
        Edge.numbered(Edge.text(WIDE), 4, (desk, b) -> desk.swapColumns(3, b), 2, 2);
        Edge.numbered(Edge.text(TALL), 2, (desk, a) -> desk.swapColumns(a, a), 2, 2);
    }

    private static String pair(int first, int second) {
        return "matrix 2 1;row " + first + ";row " + second + ";";
    }

    private static void sums() {
        Edge.says("45", "Adds a multiple of a row to another one.");
        becomes(Edge.text(WIDE), desk -> desk.addRow(1, 0, -2), "1 2 3 4\n3 2 1 -16\n");
        becomes(Edge.text(WIDE), desk -> desk.addRow(0, 1, 1), "6 8 10 -4\n5 6 7 -8\n");
        becomes(Edge.text(WIDE), desk -> desk.addRow(0, 1, 0), "1 2 3 4\n5 6 7 -8\n");
        Edge.leaves(Edge::full, desk -> desk.addRow(0, 1, -2), "2", View.NOW, View.PAST);
        Edge.says("45", "- `factor`: -9 to 9");
        becomes(Edge.text(pair(2, 2)), desk -> desk.addRow(0, 1, 9), "20\n2\n");
        becomes(Edge.text(pair(-2, 2)), desk -> desk.addRow(0, 1, -9), "-20\n2\n");
        Edge.ranges(Edge.text(pair(0, 1)), -9, 9, (desk, factor) -> desk.addRow(0, 1, factor), 1, 1);
        Edge.says("45", "Returns the rank.");
        Edge.answers(Edge.text(WIDE), desk -> desk.addRow(1, 0, 3), 2);
        Edge.answers(Edge.text(pair(0, 0)), desk -> desk.addRow(1, 0, 9), 0);
        Edge.says("45", "Throws `IndexOutOfBoundsException` if there is no such row");
        Edge.numbered(Edge.text("matrix 4 2;"), 4, (desk, a) -> desk.addRow(a, a == 0 ? 1 : 0, 9), 0, 0);
        Edge.numbered(Edge.text("matrix 4 2;"), 4, (desk, b) -> desk.addRow(b == 0 ? 1 : 0, b, 9), 0, 0);
        Edge.refuses(Edge.text("matrix 2 4;"), desk -> desk.addRow(0, 2, 1), Edge.OUTSIDE);
        Edge.says("45", "Throws `IllegalArgumentException` if a and b are the same, or factor is out of range");
        Edge.refuses(Edge::full, desk -> desk.addRow(0, 0, 1), Edge.BAD_VALUE);
        Edge.refuses(Edge::full, desk -> desk.addRow(2, 2, 0), Edge.BAD_VALUE);
        Edge.refuses(RankDesk::new, desk -> desk.addRow(0, 0, 0), Edge.BAD_VALUE);
        Edge.refuses(Edge.text(pair(0, 0)), desk -> desk.addRow(0, 1, 10), Edge.BAD_VALUE);
        Edge.refuses(Edge.text(pair(0, 0)), desk -> desk.addRow(0, 1, -10), Edge.BAD_VALUE);
        Edge.answers(Edge.text(pair(0, 0)), desk -> desk.addRow(0, 1, -9), 0);
        Edge.says("45", "Throws `IllegalStateException` if an entry would not be from -20 to 20");
        for (int factor = -9; factor <= 9; factor++) {
            int number = factor;
            for (int[] edge : new int[][] {{20, 1}, {-20, 1}, {20, 0}, {-20, 0}}) {
                int first = edge[0] - factor;
                if (Math.abs(first) <= 20) {
                    becomes(Edge.text(pair(first, 1)), desk -> desk.addRow(0, 1, number), edge[0] + "\n1\n");
                    becomes(Edge.text(pair(1, first)), desk -> desk.swapRows(0, 1) + desk.addRow(0, 1, number),
                            edge[0] + "\n1\n");
                }
            }
            Edge.same(Check.told(() -> Desks.of(pair(20, 1)).addRow(0, 1, number)), factor > 0 ? Edge.BAD_STATE : 1);
            Edge.same(Check.told(() -> Desks.of(pair(-20, 1)).addRow(0, 1, number)), factor < 0 ? Edge.BAD_STATE : 1);
        }
        Edge.refuses(Edge.text(pair(20, 20)), desk -> desk.addRow(1, 0, 9), Edge.BAD_STATE);
        Edge.refuses(Edge.text(pair(12, 1)), desk -> desk.addRow(0, 1, 9), Edge.BAD_STATE);
        Edge.refuses(Edge.text(pair(-12, 1)), desk -> desk.addRow(0, 1, -9), Edge.BAD_STATE);
        for (int column = 0; column < 6; column++) {
            StringBuilder row = new StringBuilder();
            for (int k = 0; k < 6; k++) {
                row.append(k == 0 ? "" : ",").append(k == column ? 1 : 0);
            }
            String text = "matrix 2 6;row 20,20,20,20,20,20;row " + row + ";";
            Edge.refuses(Edge.text(text), desk -> desk.addRow(0, 1, 1), Edge.BAD_STATE);
            Edge.answers(Edge.text(text), desk -> desk.addRow(0, 1, -1), 2);
        }
    }

    private static void negatives() {
        Edge.says("46", "Returns the rank.");
        Edge.answers(Edge::full, desk -> desk.negateRow(0), 2);
        Edge.answers(RankDesk::new, desk -> desk.negateRow(0), 0);
        becomes(Edge.text("matrix 2 3;row 20,-20,0;row 1,2,-3;"), desk -> desk.negateRow(0), "-20 20 0\n1 2 -3\n");
        becomes(Edge.text("matrix 2 3;row 20,-20,0;row 1,2,-3;"), desk -> desk.negateRow(1), "20 -20 0\n-1 -2 3\n");
        becomes(Edge.text(WIDE), desk -> desk.negateRow(1) + desk.negateRow(1), "1 2 3 4\n5 6 7 -8\n");
        Edge.leaves(Edge::full, desk -> desk.negateRow(2), "2", View.NOW, View.PAST);
        Edge.says("46", "Throws `IndexOutOfBoundsException` if there is no such row");
        Edge.numbered(Edge.text(TALL), 4, RankDesk::negateRow, 2, 2);
        Edge.numbered(Edge.text(WIDE), 2, RankDesk::negateRow, 2, 2);
        Edge.says("47", "Exchanges rows and columns.");
        becomes(Edge.text(WIDE), RankDesk::transpose, "1 5\n2 6\n3 7\n4 -8\n");
        becomes(Edge.text(TALL), RankDesk::transpose, "3 6 0 1\n0 0 5 1\n");
        becomes(Edge.text(Edge.THREE), RankDesk::transpose, "2 1 3\n4 2 1\n6 3 -5\n");
        becomes(Edge.text(WIDE), desk -> desk.transpose() + desk.transpose(), "1 2 3 4\n5 6 7 -8\n");
        becomes(Edge.text("matrix 1 6;row 1,2,3,4,5,6;"), RankDesk::transpose, "1\n2\n3\n4\n5\n6\n");
        Edge.says("47", "Returns the number of rows then.");
        Edge.leaves(Edge::full, RankDesk::transpose, "3", View.NOW, View.PAST);
        Edge.answers(Edge.text("matrix 1 6;"), RankDesk::transpose, 6);
        Edge.answers(Edge.text("matrix 6 1;"), RankDesk::transpose, 1);
        Edge.answers(RankDesk::new, RankDesk::transpose, 1);
        RankDesk turned = Desks.of("matrix 1 6;");
        turned.transpose();
        Edge.same(turned.count(0) + " " + turned.count(1), "6 1");
        Edge.same(Check.told(() -> turned.entry(5, 0)), 0);
        Edge.same(Check.told(() -> turned.entry(0, 1)), Edge.OUTSIDE);
    }

    /** The sixteen calls that can be undone, in such a way that each changes the desk of Edge.full(). */
    private static List<Edge.Ask> changes() {
        return List.of(RankDesk::load, desk -> desk.setEntry(0, 0, 9), desk -> desk.swapRows(0, 2),
                desk -> desk.swapColumns(1, 2), desk -> desk.addRow(0, 1, 1), desk -> desk.negateRow(2),
                RankDesk::transpose, desk -> desk.probe(1), RankDesk::repair, desk -> desk.setVector(1, 77),
                desk -> desk.claim(1, 2), RankDesk::addRelation, desk -> desk.dropRelation(0), RankDesk::certify,
                RankDesk::clearCertificate, desk -> desk.restore(1));
    }

    /** The same calls so that nothing changes, each behind what it needs for that. */
    private static List<Edge.Ask[]> idleChanges() {
        List<Edge.Ask[]> pairs = new ArrayList<>();
        Edge.Ask none = desk -> 0;
        pairs.add(new Edge.Ask[] {desk -> Desks.load(desk, "matrix 1 1;"), desk -> Desks.load(desk, "matrix 1 1;")});
        pairs.add(new Edge.Ask[] {none, desk -> desk.setEntry(0, 0, 0)});
        pairs.add(new Edge.Ask[] {none, desk -> desk.swapRows(0, 0)});
        pairs.add(new Edge.Ask[] {none, desk -> desk.swapColumns(0, 0)});
        pairs.add(new Edge.Ask[] {desk -> Desks.load(desk, "matrix 2 1;"), desk -> desk.addRow(0, 1, 0)});
        pairs.add(new Edge.Ask[] {none, desk -> desk.negateRow(0)});
        pairs.add(new Edge.Ask[] {none, RankDesk::transpose});
        pairs.add(new Edge.Ask[] {desk -> Desks.load(desk, "matrix 1 1;prime 2;") + desk.probe(0),
            desk -> desk.probe(0)});
        pairs.add(new Edge.Ask[] {none, RankDesk::repair});
        pairs.add(new Edge.Ask[] {none, desk -> desk.setVector(0, 0)});
        pairs.add(new Edge.Ask[] {desk -> desk.claim(0, 0), desk -> desk.claim(0, 0)});
        pairs.add(new Edge.Ask[] {RankDesk::certify, RankDesk::certify});
        pairs.add(new Edge.Ask[] {none, RankDesk::clearCertificate});
        pairs.add(new Edge.Ask[] {desk -> desk.keep(0), desk -> desk.restore(0)});
        return pairs;
    }

    private static void undoing() {
        Edge.says("UNDO", "Each successful load(), and each call of setEntry(), swapRows(), swapColumns(), addRow(), "
                + "negateRow(), transpose(), probe(), repair(), setVector(), claim(), addRelation(), dropRelation(), "
                + "certify(), clearCertificate() and restore() that does not throw (also if nothing changes) can be "
                + "undone");
        for (Edge.Ask change : changes()) {
            RankDesk desk = Edge.full();
            String before = View.NOW.of(desk);
            change.of(desk);
            Edge.same(View.NOW.of(desk).equals(before), false);
            Edge.same(desk.undoCount(), 6);
            Edge.same(desk.undo(), 5);
            Edge.same(View.NOW.of(desk), before);
        }
        for (Edge.Ask[] idle : idleChanges()) {
            RankDesk desk = new RankDesk();
            idle[0].of(desk);
            String before = View.NOW.of(desk);
            int undoCount = desk.undoCount();
            idle[1].of(desk);
            Edge.same(View.NOW.of(desk), before);
            Edge.same(desk.undoCount(), undoCount + 1);
            Edge.same(desk.undo(), undoCount);
            Edge.same(View.NOW.of(desk), before);
        }
        Edge.refuses(() -> notLoaded("matrix 1 1;row"), RankDesk::undo, Edge.BAD_STATE);
        Edge.says("UNDO", "the last 6 are kept");
        for (int calls = 0; calls <= 14; calls++) {
            RankDesk desk = new RankDesk();
            for (int i = 1; i <= calls; i++) {
                desk.setEntry(0, 0, i);
            }
            int kept = Math.min(calls, 6);
            Edge.same(desk.undoCount(), kept);
            for (int i = 1; i <= kept; i++) {
                Edge.same(desk.undo(), kept - i);
                Edge.same(desk.entry(0, 0), calls - i);
            }
            Edge.same(Check.told(desk::undo), Edge.BAD_STATE);
            Edge.same(desk.entry(0, 0), calls - kept);
        }
        Edge.says("UNDO", "undo() restores everything except the two buffers, the parse error and the two slots.");
        restoresAllBut();
    }

    private static RankDesk notLoaded(String text) {
        RankDesk desk = new RankDesk();
        Desks.load(desk, text);
        return desk;
    }

    private static RankDesk justKept(Edge.Ask later) {
        RankDesk desk = Desks.of("matrix 1 1;row 5;");
        desk.setEntry(0, 0, 6);
        later.of(desk);
        return desk;
    }

    private static void restoresAllBut() {
        Edge.leaves(Edge::full, RankDesk::undo, "5", View.NOW, View.PAST);
        RankDesk output = justKept(RankDesk::writeMatrix);
        output.undo();
        Edge.same(View.OUTPUT.of(output), "54 10 " + Edge.OUTSIDE);
        RankDesk input = justKept(desk -> {
            Desks.type(desk, "matrix 2 1;row 3;");
            return 0;
        });
        input.undo();
        Edge.same(input.load(), 1);
        Edge.same(Desks.matrix(input), "3\n0\n");
        RankDesk error = justKept(desk -> Desks.load(desk, "matrix 1 1;row 30;"));
        error.undo();
        Edge.same(View.ERROR.of(error), "2 at 15");
        RankDesk loaded = justKept(desk -> Desks.load(desk, "matrix 1 1;row 30;") + Desks.load(desk, "matrix 1 1;"));
        loaded.undo();
        Edge.same(View.ERROR.of(loaded), "0 at -1");
        RankDesk slot = justKept(desk -> desk.keep(0));
        slot.undo();
        Edge.same(slot.entry(0, 0), 5);
        slot.restore(0);
        Edge.same(slot.entry(0, 0), 6);
        // What keep() put in place of something else stays, too.
        RankDesk twice = justKept(desk -> desk.keep(1));
        twice.setEntry(0, 0, 7);
        twice.keep(1);
        twice.undo();
        twice.undo();
        twice.restore(1);
        Edge.same(twice.entry(0, 0), 7);
        Edge.says("58", "Undoes the latest call that can be undone (section 5).");
        RankDesk desk = new RankDesk();
        desk.setEntry(0, 0, 3);
        desk.setVector(0, 4);
        desk.undo();
        Edge.same(desk.entry(0, 0) + " " + desk.vector(0), "3 0");
        desk.claim(1, 1);
        desk.undo();
        desk.undo();
        Edge.same(desk.entry(0, 0) + " " + desk.vector(0), "0 0");
        desk.keep(0);
        desk.writeMatrix();
        Edge.same(Check.told(desk::undo), Edge.BAD_STATE);
        Edge.says("58", "Returns how many calls can still be undone.");
        Edge.answers(Edge::full, RankDesk::undo, 5);
        Edge.answers(Edge.text("matrix 1 1;"), RankDesk::undo, 0);
        Edge.says("58", "Throws `IllegalStateException` if there is nothing to undo");
        Edge.refuses(RankDesk::new, RankDesk::undo, Edge.BAD_STATE);
        Edge.refuses(ChangeEdges::undone, RankDesk::undo, Edge.BAD_STATE);
        Edge.says("59", "Returns how many calls can be undone.");
        Edge.asks(RankDesk::new, RankDesk::undoCount, 0);
        Edge.asks(Edge.text("matrix 1 1;"), RankDesk::undoCount, 1);
        Edge.asks(Edge::full, RankDesk::undoCount, 6);
        Edge.asks(ChangeEdges::undone, RankDesk::undoCount, 0);
    }

    private static RankDesk undone() {
        RankDesk desk = Edge.full();
        for (int i = 0; i < 6; i++) {
            desk.undo();
        }
        return desk;
    }

    private static RankDesk keptInBoth() {
        RankDesk desk = Edge.full();
        desk.keep(0);
        return desk;
    }

    private static void slots() {
        Edge.says("56", "Keeps everything that undo() restores, but what can be undone, in a slot, in place of what was there.");
        RankDesk desk = Edge.full();
        String kept = View.NOW.of(desk);
        desk.keep(0);
        Desks.load(desk, "matrix 1 1;row 4;");
        desk.restore(0);
        Edge.same(View.NOW.of(desk), kept);
        Edge.same(desk.undoCount(), 6);
        desk.undo();
        Edge.same(desk.entry(0, 0), 4);
        Edge.leaves(Edge::full, full -> full.keep(0), "2", View.SLOTS);
        Edge.leaves(Edge::full, full -> full.keep(1), "2", View.SLOTS);
        RankDesk replaced = Desks.of(RankEdges.withEntry(3));
        replaced.keep(0);
        replaced.setEntry(0, 0, 4);
        replaced.keep(0);
        replaced.setEntry(0, 0, 5);
        replaced.keep(1);
        replaced.setEntry(0, 0, 6);
        replaced.restore(0);
        Edge.same(replaced.entry(0, 0), 4);
        replaced.restore(1);
        Edge.same(replaced.entry(0, 0), 5);
        Edge.says("56", "- `slot`: 0 or 1");
        Edge.numbered(Edge::full, 2, RankDesk::keep, 2, 2);
        Edge.says("56", "Returns the rank.");
        Edge.answers(RankDesk::new, fresh -> fresh.keep(0), 0);
        Edge.answers(Edge.text(RankEdges.GREAT), great -> great.keep(1), 6);
        Edge.says("56", "Throws `IndexOutOfBoundsException` if there is no such slot");
        Edge.numbered(RankDesk::new, 2, RankDesk::keep, 0, 0);
        Edge.says("57", "Makes everything as it was kept in a slot, which keeps it.");
        RankDesk again = keptInBoth();
        for (int i = 0; i < 3; i++) {
            again.setEntry(0, 0, i);
            again.setVector(0, i);
            again.clearCertificate();
            again.repair();
            again.restore(0);
            Edge.same(View.NOW.of(again), kept);
        }
        Edge.leaves(Edge::full, full -> full.restore(1), "2", View.NOW, View.PAST);
        Edge.says("57", "- `slot`: 0 or 1");
        Edge.numbered(ChangeEdges::keptInBoth, 2, RankDesk::restore, 2, 2);
        Edge.says("57", "Returns the rank.");
        RankDesk ranks = new RankDesk();
        ranks.keep(0);
        Desks.load(ranks, RankEdges.GREAT);
        ranks.keep(1);
        Edge.same(ranks.restore(0), 0);
        Edge.same(ranks.restore(1), 6);
        Edge.says("57", "Throws `IndexOutOfBoundsException` if there is no such slot");
        Edge.refuses(RankDesk::new, fresh -> fresh.restore(2), Edge.OUTSIDE);
        Edge.refuses(RankDesk::new, fresh -> fresh.restore(-1), Edge.OUTSIDE);
        Edge.says("57", "Throws `IllegalStateException` if nothing is kept there");
        Edge.refuses(RankDesk::new, fresh -> fresh.restore(0), Edge.BAD_STATE);
        Edge.refuses(RankDesk::new, fresh -> fresh.restore(1), Edge.BAD_STATE);
        Edge.refuses(Edge::full, full -> full.restore(0), Edge.BAD_STATE);
        Edge.answers(Edge::full, full -> full.restore(1), 2);
        RankDesk loaded = Edge.full();
        loaded.load();
        Edge.same(Check.told(() -> loaded.restore(0)), Edge.BAD_STATE);
        Edge.same(Check.told(() -> loaded.restore(1)), 2);
    }

    static void run() {
        entries();
        swaps();
        sums();
        negatives();
        undoing();
        slots();
    }
}
