/** The edges of the section CERTIFICATES and of the promises 35 to 41, 50 to 55 and 62. */
final class CertificateEdges {
    private static final String ZEROS = "matrix 6 6;";

    private CertificateEdges() {
    }

    private static String vector(RankDesk desk) {
        StringBuilder text = new StringBuilder();
        for (int row = 0; row < desk.count(0); row++) {
            text.append(row == 0 ? "" : " ").append(desk.vector(row));
        }
        return text.toString();
    }

    private static RankDesk withVector(String text, int... numbers) {
        RankDesk desk = Desks.of(text);
        for (int row = 0; row < numbers.length; row++) {
            desk.setVector(row, numbers[row]);
        }
        return desk;
    }

    private static void vectors() {
        Edge.says("CERTIFICATES", "The vector has a number for each row, all 0 at first, behind load() and behind transpose().");
        Edge.same(vector(new RankDesk()), "0");
        Edge.same(vector(Desks.of(ZEROS)), "0 0 0 0 0 0");
        RankDesk desk = Edge.full();
        Edge.same(vector(desk), "-1 2 5");
        desk.transpose();
        Edge.same(vector(desk), "0 0 0");
        desk.undo();
        Edge.same(vector(desk), "-1 2 5");
        desk.load();
        Edge.same(vector(desk), "0 0");
        RankDesk wide = withVector("matrix 2 4;", 3, 4);
        wide.transpose();
        Edge.same(vector(wide), "0 0 0 0");
        Edge.says("35", "Returns the number of the vector for this row.");
        Edge.asks(Edge::full, full -> full.vector(0), -1);
        Edge.asks(Edge::full, full -> full.vector(2), 5);
        Edge.says("35", "Throws `IndexOutOfBoundsException` if there is no such row");
        Edge.numbered(Edge::full, 3, RankDesk::vector, -1, 5);
        Edge.numbered(() -> withVector("matrix 2 4;", 3, 4), 2, RankDesk::vector, 3, 4);
        Edge.numbered(() -> withVector("matrix 6 1;", 1, 2, 3, 4, 5, 6), 6, RankDesk::vector, 1, 6);
        Edge.says("50", "- `value`: -9999 to 9999");
        Edge.ranges(Edge::full, -9999, 9999, (full, value) -> full.setVector(0, value), -1, -1);
        Edge.says("50", "Returns the previous number of the vector for this row.");
        RankDesk set = new RankDesk();
        int previous = 0;
        for (int value : new int[] {-9999, 9999, 0, 1, -1, 9999, 9999}) {
            Edge.same(set.setVector(0, value), previous);
            Edge.same(set.vector(0), value);
            previous = value;
        }
        Edge.leaves(Edge::full, full -> full.setVector(1, 9), "2", View.NOW, View.PAST);
        Edge.says("50", "Throws `IndexOutOfBoundsException` if there is no such row");
        Edge.numbered(Edge::full, 3, (full, row) -> full.setVector(row, 1), -1, 5);
        Edge.numbered(() -> withVector("matrix 2 4;", 3, 4), 2, (d, row) -> d.setVector(row, 1), 3, 4);
        Edge.says("50", "Throws `IllegalArgumentException` if value is out of range");
        Edge.ranges(RankDesk::new, -9999, 9999, (fresh, value) -> fresh.setVector(0, value), 0, 0);
        Edge.says("36", "Returns the sum of the numbers of the vector times the entries of this column.");
        Edge.asks(Edge::full, full -> full.product(0), 15);
        Edge.asks(Edge::full, full -> full.product(2), -25);
        Edge.asks(RankDesk::new, fresh -> fresh.product(0), 0);
        String twenties = "matrix 6 2;" + "row 20,-20;".repeat(6);
        Edge.asks(() -> withVector(twenties, 9999, 9999, 9999, 9999, 9999, 9999), d -> d.product(0), 1_199_880);
        Edge.asks(() -> withVector(twenties, 9999, 9999, 9999, 9999, 9999, 9999), d -> d.product(1), -1_199_880);
        Edge.says("36", "Throws `IndexOutOfBoundsException` if there is no such column");
        Edge.numbered(Edge::full, 3, RankDesk::product, 15, -25);
        Edge.numbered(() -> withVector(RankEdges.WIDE, 1, 1), 4, RankDesk::product, 6, -4);
        Edge.numbered(() -> withVector(RankEdges.TALL, 1, 1), 2, RankDesk::product, 9, 0);
    }

    private static RankDesk claiming(int rows, int columns) {
        RankDesk desk = Desks.of(Edge.THREE);
        desk.claim(rows, columns);
        return desk;
    }

    private static void claims() {
        Edge.says("37", "- `what`: 0 the set of rows, 1 the set of columns of the claim");
        Edge.ranges(Edge::full, 0, 1, RankDesk::claimed, 6, 3);
        Edge.says("37", "Returns that set; NONE without a claim.");
        Edge.asks(Edge::full, desk -> desk.claimed(0), 6);
        Edge.asks(RankDesk::new, desk -> desk.claimed(0), -1);
        Edge.asks(RankDesk::new, desk -> desk.claimed(1), -1);
        Edge.answers(() -> claiming(0, 0), desk -> desk.claimed(0), 0);
        Edge.answers(() -> claiming(0, 0), desk -> desk.claimed(1), 0);
        Edge.answers(() -> claiming(7, 7), desk -> desk.claimed(0), 7);
        Edge.says("37", "Throws `IllegalArgumentException` if what is out of range");
        Edge.ranges(RankDesk::new, 0, 1, RankDesk::claimed, -1, -1);
        Edge.says("51", "Makes a claim, in place of that there was.");
        RankDesk desk = Edge.full();
        desk.claim(1, 4);
        Edge.same(desk.claimed(0) + " " + desk.claimed(1), "1 4");
        desk.claim(0, 0);
        Edge.same(desk.claimed(0) + " " + desk.claimed(1), "0 0");
        Edge.leaves(Edge::full, full -> full.claim(1, 4), "1", View.NOW, View.PAST);
        Edge.says("51", "Returns 1 if its minor is not 0; otherwise 0.");
        Edge.answers(Edge::full, full -> full.claim(0, 0), 1);
        Edge.answers(Edge::full, full -> full.claim(4, 4), 1);
        Edge.answers(Edge::full, full -> full.claim(3, 3), 0);
        Edge.answers(Edge::full, full -> full.claim(7, 7), 0);
        Edge.answers(RankDesk::new, fresh -> fresh.claim(1, 1), 0);
        Edge.answers(RankDesk::new, fresh -> fresh.claim(0, 0), 1);
        Edge.answers(Edge.text(RankEdges.GREAT), great -> great.claim(63, 63), 1);
        // A minor of -1.
        Edge.answers(Edge.text("matrix 2 2;row 20,19;row 19,18;"), d -> d.claim(3, 3), 1);
        Edge.says("51", "Throws `IllegalArgumentException` if a set has a bit that stands for no row or column, or the sets "
                + "differ in size");
        Edge.answers(Edge.text(RankEdges.WIDE), wide -> wide.claim(3, 12), 1);
        int[][] refused = {{4, 1}, {1, 16}, {3, 1}, {1, 3}, {5, 3}, {0, 8}, {-1, -1}, {Integer.MIN_VALUE, 1}};
        for (int[] sets : refused) {
            Edge.refuses(Edge.text(RankEdges.WIDE), wide -> wide.claim(sets[0], sets[1]), Edge.BAD_VALUE);
        }
        for (int[] sets : new int[][] {{8, 1}, {1, 8}, {7, 3}, {0, 1}, {1, 0}, {64, 64}}) {
            Edge.refuses(Edge::full, full -> full.claim(sets[0], sets[1]), Edge.BAD_VALUE);
        }
        Edge.refuses(Edge.text(RankEdges.TALL), tall -> tall.claim(1, 4), Edge.BAD_VALUE);
    }

    private static RankDesk withRelations(int count) {
        RankDesk desk = Desks.of(ZEROS);
        for (int i = 0; i < count; i++) {
            desk.setVector(0, 10 + i);
            desk.setVector(i, 10 + i);
            desk.addRelation();
        }
        return desk;
    }

    private static void addedRelations() {
        Edge.says("CERTIFICATES", "at most 6 relations, each with a number for each row, not all 0");
        Edge.answers(() -> withRelations(5), RankDesk::addRelation, 6);
        Edge.refuses(() -> withRelations(6), RankDesk::addRelation, Edge.BAD_STATE);
        Edge.says("52", "Adds the vector as a relation behind the others.");
        RankDesk desk = Edge.full();
        desk.setVector(1, -9999);
        desk.addRelation();
        for (int row = 0; row < 3; row++) {
            Edge.same(desk.relationOf(2, row), new int[] {-1, -9999, 5}[row]);
            Edge.same(desk.relationOf(0, row), new int[] {-1, 2, 0}[row]);
        }
        Edge.same(vector(desk), "-1 -9999 5");
        Edge.leaves(Edge::full, RankDesk::addRelation, "3", View.NOW, View.PAST);
        Edge.says("52", "Returns the number of relations then.");
        RankDesk counting = withVector(ZEROS, 1);
        for (int count = 1; count <= 6; count++) {
            Edge.same(counting.addRelation(), count);
            Edge.same(counting.count(4), count);
        }
        Edge.says("52", "Throws `IllegalStateException` if all numbers of the vector are 0, or there are 6 relations");
        Edge.refuses(RankDesk::new, RankDesk::addRelation, Edge.BAD_STATE);
        Edge.refuses(Edge.text(ZEROS), RankDesk::addRelation, Edge.BAD_STATE);
        Edge.answers(() -> withVector(ZEROS, 1), RankDesk::addRelation, 1);
        Edge.answers(() -> withVector(ZEROS, 0, 0, 0, 0, 0, -1), RankDesk::addRelation, 1);
        Edge.answers(() -> withVector("matrix 6 1;", 0, 0, 0, 1), RankDesk::addRelation, 1);
        Edge.refuses(CertificateEdges::zeroAgain, RankDesk::addRelation, Edge.BAD_STATE);
        Edge.refuses(CertificateEdges::fullAndZero, RankDesk::addRelation, Edge.BAD_STATE);
        RankDesk certified = Desks.of(ZEROS);
        certified.certify();
        certified.setVector(0, 1);
        Edge.same(Check.told(certified::addRelation), Edge.BAD_STATE);
        Edge.same(certified.dropRelation(5), 5);
        Edge.same(Check.told(certified::addRelation), 6);
    }

    private static RankDesk zeroAgain() {
        RankDesk desk = withVector(ZEROS, 1);
        desk.addRelation();
        desk.setVector(0, 0);
        return desk;
    }

    private static RankDesk fullAndZero() {
        RankDesk desk = withRelations(6);
        for (int row = 0; row < 6; row++) {
            desk.setVector(row, 0);
        }
        return desk;
    }

    private static void numbersOfRelations() {
        Edge.says("38", "- `relation`: number of a relation of the certificate, from 0");
        Edge.numbered(() -> withRelations(6), 6, (desk, relation) -> desk.relationOf(relation, 0), 10, 15);
        Edge.says("38", "Returns its number for this row.");
        Edge.asks(Edge::full, desk -> desk.relationOf(0, 2), 0);
        Edge.asks(Edge::full, desk -> desk.relationOf(1, 2), 5);
        Edge.says("38", "Throws `IndexOutOfBoundsException` if there is no such relation or row");
        Edge.numbered(Edge::full, 2, (desk, relation) -> desk.relationOf(relation, 2), 0, 5);
        Edge.numbered(Edge::full, 3, (desk, row) -> desk.relationOf(1, row), -1, 5);
        Edge.refuses(RankDesk::new, desk -> desk.relationOf(0, 0), Edge.OUTSIDE);
        Edge.says("39", "- `relation`: number of a relation of the certificate, from 0");
        Edge.numbered(() -> withRelations(6), 6, RankDesk::head, 0, 5);
        Edge.says("39", "Returns its head.");
        Edge.asks(Edge::full, desk -> desk.head(0), 1);
        Edge.asks(Edge::full, desk -> desk.head(1), 2);
        Edge.says("CERTIFICATES", "The head of a relation is the highest row whose number is not 0.");
        for (int head = 0; head < 6; head++) {
            int[] numbers = new int[head + 1];
            numbers[head] = head % 2 == 0 ? 1 : -9999;
            Edge.answers(() -> added(ZEROS, numbers), desk -> desk.head(0), head);
            numbers[0] = 7;
            Edge.answers(() -> added(ZEROS, numbers), desk -> desk.head(0), head);
        }
        Edge.says("39", "Throws `IndexOutOfBoundsException` if there is no such relation");
        Edge.numbered(Edge::full, 2, RankDesk::head, 1, 2);
        Edge.refuses(RankDesk::new, desk -> desk.head(0), Edge.OUTSIDE);
    }

    private static RankDesk added(String text, int... numbers) {
        RankDesk desk = withVector(text, numbers);
        desk.addRelation();
        return desk;
    }

    private static int is(boolean value) {
        return value ? 1 : 0;
    }

    private static void holding() {
        Edge.says("40", "- `relation`: number of a relation of the certificate, from 0");
        Edge.numbered(() -> withRelations(6), 6, (desk, relation) -> is(desk.holds(relation)), 1, 1);
        Edge.says("40", "Returns true if the sum of its numbers times the rows is a row of zeros.");
        Edge.asks(Edge::full, desk -> is(desk.holds(0)), 1);
        Edge.asks(Edge::full, desk -> is(desk.holds(1)), 0);
        // Only the first column, only the last one is not 0.
        Edge.answers(() -> added("matrix 2 3;row 2,1,1;row 1,1,1;", -1, 1), desk -> is(desk.holds(0)), 0);
        Edge.answers(() -> added("matrix 2 3;row 1,1,2;row 1,1,1;", -1, 1), desk -> is(desk.holds(0)), 0);
        Edge.answers(() -> added("matrix 2 3;row 1,1,1;row 1,1,1;", -1, 1), desk -> is(desk.holds(0)), 1);
        Edge.answers(() -> added("matrix 1 6;row 0,0,0,0,0,1;", 1), desk -> is(desk.holds(0)), 0);
        Edge.answers(() -> added("matrix 2 1;row 20;row 20;", 9999, -9999), desk -> is(desk.holds(0)), 1);
        Edge.answers(() -> added("matrix 2 1;row 20;row 20;", 9999, -9998), desk -> is(desk.holds(0)), 0);
        Edge.says("40", "Throws `IndexOutOfBoundsException` if there is no such relation");
        Edge.numbered(Edge::full, 2, (desk, relation) -> is(desk.holds(relation)), 1, 0);
        Edge.refuses(RankDesk::new, desk -> is(desk.holds(0)), Edge.OUTSIDE);
    }

    private static void dropped() {
        Edge.says("53", "Removes a relation; the numbers of those behind it get less by 1.");
        for (int dropped = 0; dropped < 6; dropped++) {
            RankDesk desk = withRelations(6);
            desk.dropRelation(dropped);
            for (int relation = 0; relation < 5; relation++) {
                int before = relation < dropped ? relation : relation + 1;
                Edge.same(desk.relationOf(relation, 0), 10 + before);
                Edge.same(desk.head(relation), before);
            }
        }
        Edge.leaves(Edge::full, desk -> desk.dropRelation(0), "1", View.NOW, View.PAST);
        Edge.says("53", "- `relation`: number of a relation of the certificate, from 0");
        Edge.numbered(() -> withRelations(6), 6, RankDesk::dropRelation, 5, 5);
        Edge.says("53", "Returns the number of relations then.");
        RankDesk desk = withRelations(6);
        for (int count = 5; count >= 0; count--) {
            Edge.same(desk.dropRelation(0), count);
            Edge.same(desk.count(4), count);
        }
        Edge.same(Check.told(() -> desk.dropRelation(0)), Edge.OUTSIDE);
        Edge.says("53", "Throws `IndexOutOfBoundsException` if there is no such relation");
        Edge.numbered(Edge::full, 2, RankDesk::dropRelation, 1, 1);
        Edge.refuses(RankDesk::new, fresh -> fresh.dropRelation(0), Edge.OUTSIDE);
    }

    private static String certificate(RankDesk desk) {
        return Desks.certificate(desk);
    }

    private static void staying() {
        Edge.says("CERTIFICATES", "There is no claim and no relation at first, behind load() and behind transpose(); otherwise "
                + "they stay as they are when the matrix changes.");
        Edge.same(certificate(new RankDesk()), "\n");
        Edge.same(certificate(Desks.of(ZEROS)), "\n");
        String all = "rows 1 2 columns 0 1\n-1 2 0\n-1 2 5\n";
        Edge.same(certificate(Edge.full()), all);
        stays(RankDesk::load, "\n", "0 0");
        stays(RankDesk::transpose, "\n", "0 0 0");
        stays(desk -> desk.setEntry(1, 0, 20), all, "-1 2 5");
        stays(desk -> desk.swapRows(0, 2), all, "-1 2 5");
        stays(desk -> desk.swapColumns(0, 2), all, "-1 2 5");
        stays(desk -> desk.addRow(0, 1, -2), all, "-1 2 5");
        stays(desk -> desk.negateRow(1), all, "-1 2 5");
        stays(desk -> desk.setVector(1, 3), all, "-1 3 5");
        stays(desk -> desk.probe(1), all, "-1 2 5");
        stays(RankDesk::repair, all, "-1 2 5");
        stays(desk -> desk.claim(0, 0), "rows columns\n-1 2 0\n-1 2 5\n", "-1 2 5");
        stays(desk -> desk.dropRelation(0), "rows 1 2 columns 0 1\n-1 2 5\n", "-1 2 5");
    }

    private static void stays(Edge.Ask change, String due, String vector) {
        RankDesk desk = Edge.full();
        change.of(desk);
        Edge.same(certificate(desk), due);
        Edge.same(vector(desk), vector);
    }

    /** The flaw with a claim and with these relations, each told by its numbers for the three rows. */
    private static void flawed(int due, int rows, int columns, int[]... relations) {
        RankDesk desk = Desks.of(Edge.THREE);
        for (int[] relation : relations) {
            for (int row = 0; row < 3; row++) {
                desk.setVector(row, relation[row]);
            }
            desk.addRelation();
        }
        if (rows >= 0) {
            desk.claim(rows, columns);
        }
        Edge.same(desk.flaw(), due);
    }

    private static void flaws() {
        int[] right = {-1, 2, 0};
        int[] twice = {2, -4, 0};
        int[] wrong = {0, 1, 0};
        Edge.says("CERTIFICATES", "The flaw of the certificate is the first of these that applies, 0 if none does (then the "
                + "size of the claim is the rank)");
        flawed(0, 5, 3, right);
        flawed(0, 6, 6, twice);
        Edge.says("CERTIFICATES", "1 there is no claim");
        flawed(1, -1, -1);
        flawed(1, -1, -1, right);
        flawed(1, -1, -1, wrong);
        flawed(1, -1, -1, right, right);
        flawed(1, -1, -1, right, right, right);
        Edge.says("CERTIFICATES", "2 the minor of the claim is 0");
        flawed(2, 3, 3, right);
        flawed(2, 7, 7);
        flawed(2, 3, 3, wrong);
        flawed(2, 3, 3, right, twice);
        flawed(2, 7, 7, right);
        Edge.says("CERTIFICATES", "3 for a relation the sum of its numbers times the rows is not a row of zeros");
        flawed(3, 5, 3, wrong);
        flawed(3, 5, 3, right, wrong);
        flawed(3, 5, 3, wrong, right);
        flawed(3, 5, 3, wrong, wrong);
        flawed(3, 1, 1, right, wrong);
        flawed(3, 0, 0, wrong);
        Edge.says("CERTIFICATES", "4 two relations have the same head");
        flawed(4, 5, 3, right, right);
        flawed(4, 5, 3, right, twice);
        flawed(4, 1, 1, right, twice);
        flawed(4, 0, 0, right, twice, right);
        Edge.says("CERTIFICATES", "5 the size of the claim and the number of relations together are not the number of rows");
        flawed(5, 5, 3);
        flawed(5, 1, 1, right);
        flawed(5, 0, 0);
        flawed(5, 0, 0, right);
        moreFlaws();
        Edge.says("41", "Returns the flaw of the certificate.");
        Edge.asks(Edge::full, RankDesk::flaw, 3);
        Edge.asks(RankDesk::new, RankDesk::flaw, 1);
        Edge.asks(Edge.text(ZEROS), RankDesk::flaw, 1);
    }

    private static void moreFlaws() {
        RankDesk fresh = new RankDesk();
        fresh.claim(0, 0);
        Edge.same(fresh.flaw(), 5);
        fresh.setVector(0, -3);
        fresh.addRelation();
        Edge.same(fresh.flaw(), 0);
        fresh.addRelation();
        Edge.same(fresh.flaw(), 4);
        fresh.setEntry(0, 0, 1);
        Edge.same(fresh.flaw(), 3);
        fresh.claim(1, 1);
        Edge.same(fresh.flaw(), 3);
        fresh.dropRelation(0);
        fresh.dropRelation(0);
        Edge.same(fresh.flaw(), 0);
        fresh.setEntry(0, 0, 0);
        Edge.same(fresh.flaw(), 2);
        RankDesk six = withRelations(6);
        six.claim(0, 0);
        Edge.same(six.flaw(), 0);
        six.dropRelation(3);
        Edge.same(six.flaw(), 5);
        RankDesk heads = withRelations(5);
        heads.setVector(5, 0);
        heads.setVector(4, 0);
        heads.setVector(3, 0);
        heads.addRelation();
        heads.claim(0, 0);
        // The third and the last relation have the head 2.
        Edge.same(heads.head(2) + " " + heads.head(5), "2 2");
        Edge.same(heads.flaw(), 4);
    }

    private static void certified(String text, int rank, String due) {
        RankDesk desk = Desks.of(text);
        Edge.same(desk.certify(), rank);
        Edge.same(desk.flaw(), 0);
        Edge.same(certificate(desk), due);
        Edge.same(desk.undoCount(), 2);
    }

    private static void certifying() {
        Edge.says("54", "Makes a certificate without a flaw, in place of that there was: the claim is the row profile and the "
                + "column profile, the relations are those of the rows that are not in the row profile, in ascending "
                + "order.");
        certified("matrix 1 1;row 0;", 0, "rows columns\n1\n");
        certified("matrix 1 1;row -7;", 1, "rows 0 columns 0\n");
        certified(ZEROS, 0, "rows columns\n1 0 0 0 0 0\n0 1 0 0 0 0\n0 0 1 0 0 0\n0 0 0 1 0 0\n0 0 0 0 1 0\n0 0 0 0 0 1\n");
        certified(RankEdges.GREAT, 6, "rows 0 1 2 3 4 5 columns 0 1 2 3 4 5\n");
        certified(RankEdges.TALL, 2, "rows 0 2 columns 0 1\n-2 1 0 0\n-5 0 -3 15\n");
        certified(RankEdges.WIDE, 2, "rows 0 1 columns 0 1\n");
        certified(RelationEdges.CURVE, 3, "rows 0 1 2 columns 0 1 2\n-1 3 -3 1 0 0\n-3 8 -6 0 1 0\n-6 15 -10 0 0 1\n");
        certified(RelationEdges.BIG, 5, "rows 0 1 2 3 4 columns 0 1 2 3 4\n-46189 -48620 -54340 -71060 -83980 923780\n");
        certified("matrix 1 6;row 0,0,0,0,0,1;", 1, "rows 0 columns 5\n");
        certified("matrix 6 1;row 0;row 0;row 0;row 0;row 0;row 1;", 1,
                "rows 5 columns 0\n1 0 0 0 0 0\n0 1 0 0 0 0\n0 0 1 0 0 0\n0 0 0 1 0 0\n0 0 0 0 1 0\n");
        RankDesk desk = Edge.full();
        desk.certify();
        Edge.same(certificate(desk), "rows 0 2 columns 0 1\n-1 2 0\n");
        Edge.same(vector(desk), "-1 2 5");
        Edge.leaves(Edge::full, RankDesk::certify, "2", View.NOW, View.PAST);
        Edge.says("54", "Returns the rank.");
        Edge.answers(Edge::full, RankDesk::certify, 2);
        Edge.answers(RankDesk::new, RankDesk::certify, 0);
        Edge.says("55", "Removes the claim and all relations; the vector is 0.");
        RankDesk cleared = Edge.full();
        cleared.clearCertificate();
        Edge.same(certificate(cleared), "\n");
        Edge.same(cleared.claimed(0) + " " + cleared.claimed(1) + " " + cleared.count(4), "-1 -1 0");
        Edge.same(vector(cleared), "0 0 0");
        Edge.leaves(Edge::full, RankDesk::clearCertificate, "2", View.NOW, View.PAST);
        Edge.says("55", "Returns how many relations there were.");
        for (int count = 0; count <= 6; count++) {
            int relations = count;
            Edge.answers(() -> withRelations(relations), RankDesk::clearCertificate, count);
        }
        Edge.answers(RankDesk::new, RankDesk::clearCertificate, 0);
    }

    private static void writing() {
        Edge.says("62", "the word rows, the numbers of the rows of the claim, the word columns, the numbers of its columns, all "
                + "separated by spaces, and a newline (only the newline without a claim); then for each relation its "
                + "numbers, separated by spaces, and a newline");
        Edge.same(certificate(claiming(0, 0)), "rows columns\n");
        Edge.same(certificate(claiming(1, 4)), "rows 0 columns 2\n");
        Edge.same(certificate(claiming(7, 7)), "rows 0 1 2 columns 0 1 2\n");
        Edge.same(certificate(added("matrix 1 1;", -9999)), "\n-9999\n");
        Edge.same(certificate(added(ZEROS, 0, 9999, 0, -1, 0, 10)), "\n0 9999 0 -1 0 10\n");
        RankDesk long6 = withVector(ZEROS, -9999, -9999, -9999, -9999, -9999, -9999);
        for (int i = 0; i < 6; i++) {
            long6.addRelation();
        }
        long6.claim(63, 63);
        String line = "-9999 -9999 -9999 -9999 -9999 -9999\n";
        Edge.same(certificate(long6), "rows 0 1 2 3 4 5 columns 0 1 2 3 4 5\n" + line.repeat(6));
        Edge.says("62", "Returns the length of the output.");
        Edge.leaves(Edge::full, RankDesk::writeCertificate, "35", View.OUTPUT);
        Edge.leaves(RankDesk::new, RankDesk::writeCertificate, "1", View.OUTPUT);
    }

    static void run() {
        vectors();
        claims();
        addedRelations();
        numbersOfRelations();
        holding();
        dropped();
        staying();
        flaws();
        certifying();
        writing();
    }
}
