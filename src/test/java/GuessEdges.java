/** The edges of the section GUESSES, of the promises 33, 34, 48 and 49, and of the counts 5 and 6. */
final class GuessEdges {
    private static final String GREAT_PRIMES = "prime 97;prime 89;prime 83;prime 79;prime 73;prime 71;";

    private GuessEdges() {
    }

    private static String guess(RankDesk desk) {
        StringBuilder text = new StringBuilder();
        for (int what = 0; what < 5; what++) {
            text.append(what == 0 ? "" : " ").append(desk.guess(what));
        }
        return text.toString();
    }

    /** Tries the numbers in the order 0, 1, -1, 2, -2 and so on. */
    private static long nearest(long minor, int... primes) {
        for (long amount = 0;; amount++) {
            for (long number : new long[] {amount, -amount}) {
                boolean fits = true;
                for (int p : primes) {
                    fits &= (number - minor) % p == 0;
                }
                if (fits) {
                    return number;
                }
            }
        }
    }

    private static void guessedMinors() {
        Edge.says("33", "Tells the minor as far as some primes know it.");
        Edge.answers(Edge.text(RankEdges.GREAT + GREAT_PRIMES), desk -> desk.guessed(63, 63, 6), -8_192_000_000L);
        Edge.answers(Edge.text(RankEdges.GREAT + GREAT_PRIMES), desk -> desk.guessed(63, 63, 5), 72_560_826);
        Edge.says("33", "Returns the number with the least amount, the positive one of two, that has the same remainder as the "
                + "minor for each of these primes.");
        int[][] lists = {{2}, {3}, {5}, {41}, {43}, {97}, {2, 3}, {2, 5}, {3, 5}, {2, 19}, {2, 23}, {3, 13}};
        for (int[] primes : lists) {
            StringBuilder told = new StringBuilder();
            for (int p : primes) {
                told.append("prime ").append(p).append(';');
            }
            for (int entry = -20; entry <= 20; entry++) {
                String text = RankEdges.withEntry(entry) + told;
                Edge.answers(Edge.text(text), desk -> desk.guessed(1, 1, primes.length), nearest(entry, primes));
            }
        }
        Edge.answers(Edge.text("matrix 1 1;row -1;prime 2;"), desk -> desk.guessed(1, 1, 1), 1);
        Edge.answers(Edge.text("matrix 1 1;row -5;prime 2;prime 5;"), desk -> desk.guessed(1, 1, 2), 5);
        Edge.answers(Edge.text("matrix 1 1;row -4;prime 2;prime 5;"), desk -> desk.guessed(1, 1, 2), -4);
        Edge.answers(Edge.text("matrix 1 1;row 6;prime 2;prime 5;"), desk -> desk.guessed(1, 1, 2), -4);
        Edge.asks(Edge::full, desk -> desk.guessed(5, 5, 3), -28);
        Edge.asks(Edge::full, desk -> desk.guessed(0, 0, 3), 1);
        Edge.says("33", "- `primes`: 0 to the number of primes that were told: those of the places 0 to primes - 1 are taken");
        long[] due = {0, -24, 461, 190_387, 15_954_245, 72_560_826, -8_192_000_000L};
        for (int primes = 0; primes <= 6; primes++) {
            int number = primes;
            Edge.answers(Edge.text(RankEdges.GREAT + GREAT_PRIMES), desk -> desk.guessed(63, 63, number), due[primes]);
        }
        Edge.ranges(Edge::full, 0, 3, (desk, primes) -> desk.guessed(5, 5, primes), 0, -28);
        Edge.ranges(RankDesk::new, 0, 0, (desk, primes) -> desk.guessed(0, 0, primes), 0, 0);
        Edge.ranges(Edge.text(RankEdges.GREAT + GREAT_PRIMES), 0, 6, (desk, primes) -> desk.guessed(0, 0, primes), 0, 1);
        Edge.says("33", "Throws `IllegalArgumentException` if primes is out of range, a set has a bit that stands for no row or "
                + "column, or the sets differ in size");
        Edge.answers(Edge.text(RankEdges.WIDE), desk -> desk.guessed(3, 12, 1), -1);
        int[][] refused = {{4, 1}, {1, 16}, {1, 3}, {3, 1}, {0, 1}, {1, 0}, {-1, -1}, {Integer.MIN_VALUE, 1}};
        for (int[] sets : refused) {
            Edge.refuses(Edge.text(RankEdges.WIDE), desk -> desk.guessed(sets[0], sets[1], 1), Edge.BAD_VALUE);
        }
        Edge.refuses(Edge.text(RankEdges.TALL), desk -> desk.guessed(1, 4, 1), Edge.BAD_VALUE);
        Edge.refuses(Edge.text(RankEdges.TALL), desk -> desk.guessed(16, 1, 1), Edge.BAD_VALUE);
    }

    private static void faults() {
        Edge.says("GUESSES", "A guess is the rank, the row profile and the column profile modulo one of the primes that were "
                + "told.");
        String[] due = {"0 2 6 3 2", "1 2 5 5 3", "2 2 5 3 0"};
        for (int place = 0; place < 3; place++) {
            RankDesk desk = Desks.of(Edge.THREE);
            desk.probe(place);
            Edge.same(guess(desk), due[place]);
        }
        Edge.says("GUESSES", "its fault is 1 if the rank is not, otherwise 2 if the row profile is not, otherwise 3 if the "
                + "column profile is not, 0 if it is right");
        // Of rank 1: modulo 2 both profiles are others, only the row profile is, only the column profile is, none is.
        Edge.answers(Edge.text("matrix 2 2;row 4,2;row 2,1;prime 2;"), desk -> desk.probe(0), 2);
        Edge.answers(Edge.text("matrix 2 2;row 2,2;row 1,1;prime 2;"), desk -> desk.probe(0), 2);
        Edge.answers(Edge.text("matrix 2 2;row 2,1;row 2,1;prime 2;"), desk -> desk.probe(0), 3);
        Edge.answers(Edge.text("matrix 2 2;row 1,1;row 1,1;prime 2;"), desk -> desk.probe(0), 0);
        // The rank is another, and with it both profiles.
        Edge.answers(Edge.text("matrix 2 2;row 1,1;row 1,3;prime 2;"), desk -> desk.probe(0), 1);
        Edge.answers(Edge.text("matrix 1 1;row 2;prime 2;"), desk -> desk.probe(0), 1);
        Edge.answers(Edge.text("matrix 1 1;row 0;prime 2;"), desk -> desk.probe(0), 0);
        Edge.says("GUESSES", "There is no guess at first, and behind load().");
        Edge.same(guess(new RankDesk()), "-1 -1 -1 -1 -1");
        Edge.same(guess(Desks.of(Edge.THREE)), "-1 -1 -1 -1 -1");
        RankDesk desk = Edge.full();
        Edge.same(guess(desk), "0 2 6 3 2");
        desk.load();
        Edge.same(guess(desk), "-1 -1 -1 -1 -1");
        Edge.says("GUESSES", "A guess stays as it is when the matrix changes.");
        stays(full -> full.setEntry(0, 0, 1), "0 2 6 3 1");
        stays(full -> full.swapRows(0, 1), "0 2 6 3 2");
        stays(full -> full.swapRows(0, 2), "0 2 6 3 2");
        stays(full -> full.swapColumns(0, 2), "0 2 6 3 2");
        stays(full -> full.addRow(1, 0, 0), "0 2 6 3 2");
        stays(full -> full.addRow(0, 1, -2), "0 2 6 3 0");
        stays(full -> full.negateRow(2), "0 2 6 3 2");
        stays(RankDesk::transpose, "0 2 6 3 2");
        stays(RankDesk::certify, "0 2 6 3 2");
        stays(RankDesk::clearCertificate, "0 2 6 3 2");
    }

    private static void stays(Edge.Ask change, String due) {
        RankDesk desk = Edge.full();
        change.of(desk);
        Edge.same(guess(desk), due);
    }

    private static void values() {
        Edge.says("34", "- `what`: 0 the place of its prime; 1 its rank; 2 its row profile; 3 its column profile; 4 its fault");
        int[] due = {0, 2, 6, 3, 2};
        for (int what = 0; what < 5; what++) {
            int number = what;
            Edge.asks(Edge::full, desk -> desk.guess(number), due[what]);
        }
        Edge.says("34", "Returns that value of the guess; NONE without a guess.");
        for (int what = 0; what < 5; what++) {
            int number = what;
            Edge.asks(RankDesk::new, desk -> desk.guess(number), -1);
            Edge.asks(Edge.text("matrix 1 1;row 1;prime 2;"), desk -> desk.guess(number), -1);
        }
        Edge.says("34", "Throws `IllegalArgumentException` if what is out of range");
        Edge.ranges(Edge::full, 0, 4, RankDesk::guess, 0, 2);
        Edge.ranges(RankDesk::new, 0, 4, RankDesk::guess, -1, -1);
    }

    private static void probes() {
        Edge.says("48", "Makes the guess by a prime.");
        RankDesk desk = Edge.full();
        desk.probe(1);
        Edge.same(guess(desk), "1 2 5 5 3");
        Edge.leaves(Edge::full, full -> full.probe(1), "3", View.NOW, View.PAST);
        Edge.says("48", "Returns its fault.");
        Edge.answers(Edge.text(Edge.THREE), three -> three.probe(0), 2);
        Edge.answers(Edge.text(Edge.THREE), three -> three.probe(1), 3);
        Edge.answers(Edge.text(Edge.THREE), three -> three.probe(2), 0);
        Edge.says("48", "- `place`: place of a prime, from 0");
        Edge.numbered(Edge::full, 3, RankDesk::probe, 2, 0);
        Edge.says("48", "Throws `IndexOutOfBoundsException` if there is no such prime");
        Edge.numbered(Edge.text("matrix 1 1;row 2;prime 2;"), 1, RankDesk::probe, 1, 1);
        Edge.numbered(Edge.text(RankEdges.PRIME_DIAGONAL), 6, RankDesk::probe, 1, 1);
        Edge.refuses(RankDesk::new, fresh -> fresh.probe(0), Edge.OUTSIDE);
        Edge.refuses(Edge.text("matrix 1 1;"), none -> none.probe(0), Edge.OUTSIDE);
    }

    private static void countedProbes() {
        Edge.says("7", "5 calls of probe() (not of repair()) that made the first guess or one that differs in the prime, the "
                + "rank or a profile");
        counted(desk -> desk.probe(0), 1);
        counted(desk -> desk.probe(0) + desk.probe(0), 1);
        counted(desk -> desk.probe(0) + desk.probe(1), 2);
        counted(desk -> desk.probe(0) + desk.probe(1) + desk.probe(0), 3);
        counted(RankDesk::repair, 0);
        // repair() made the guess by place 2; the same one by probe() is neither the first one nor another.
        counted(desk -> desk.repair() + desk.probe(2), 0);
        counted(desk -> desk.repair() + desk.probe(1), 1);
        counted(desk -> desk.probe(2) + desk.repair(), 1);
        // Another matrix, the same profiles and the same rank.
        counted(desk -> desk.probe(2) + desk.negateRow(0) + desk.probe(2), 1);
        // By the same prime: another rank, another row profile alone, another column profile alone.
        counted(desk -> desk.probe(2) + desk.setEntry(0, 0, 1) + desk.probe(2), 2);
        counted(desk -> desk.probe(2) + desk.swapRows(1, 2) + desk.probe(2), 2);
        counted(desk -> desk.probe(1) + desk.swapColumns(1, 2) + desk.probe(1), 2);
        // By another prime with the same rank and the same profiles.
        Edge.answers(Edge.text("matrix 1 1;row 1;prime 2;prime 3;"), desk -> desk.probe(0) + desk.probe(1) + desk.count(5),
                2);
        counted(desk -> desk.probe(0) + desk.undo(), 0);
        counted(desk -> desk.probe(0) + desk.undo() + desk.probe(0), 1);
        counted(desk -> desk.probe(0) + desk.transpose() + desk.clearCertificate(), 1);
        Edge.says("7", "6 primes that repair() tried in all its calls, also in those that found none");
        tried(RankDesk::repair, 3);
        tried(desk -> desk.repair() + desk.repair(), 6);
        tried(desk -> desk.probe(0) + desk.probe(1), 0);
        tried(desk -> desk.probe(1) + desk.repair(), 1);
        tried(desk -> desk.repair() + desk.undo(), 0);
        Edge.answers(Edge.text("matrix 1 1;row 6;prime 2;prime 3;"), desk -> desk.repair() + desk.count(6), 1);
        Edge.answers(Edge.text("matrix 1 1;row 6;prime 2;prime 3;"), desk -> desk.repair() + desk.repair()
                + desk.count(6), 2);
    }

    private static void counted(Edge.Ask calls, int due) {
        RankDesk desk = Desks.of(Edge.THREE);
        calls.of(desk);
        Edge.same(desk.count(5), due);
    }

    private static void tried(Edge.Ask calls, int due) {
        RankDesk desk = Desks.of(Edge.THREE);
        calls.of(desk);
        Edge.same(desk.count(6), due);
    }

    /** A desk of one entry with the primes 2, 3 and 5, and a guess by the prime of a place, if there is such a place. */
    private static RankDesk guessing(int entry, int place) {
        RankDesk desk = Desks.of(RankEdges.withEntry(entry) + "prime 2;prime 3;prime 5;");
        if (place >= 0) {
            desk.probe(place);
        }
        return desk;
    }

    private static void repaired(int entry, int place, int due, int tries, int guessed) {
        RankDesk desk = guessing(entry, place);
        int undoCount = desk.undoCount();
        Edge.same(desk.repair(), due);
        Edge.same(desk.count(6), tries);
        Edge.same(desk.guess(0), guessed);
        Edge.same(desk.undoCount(), undoCount + 1);
    }

    private static void repairs() {
        Edge.says("49", "Makes guesses as probe() does, by the primes behind that of the guess, those from place 0 on behind "
                + "the last one (from place 0 on without a guess), each prime at most once, that of the guess as the last "
                + "one, until one is right; if none is, the guess stays as it was.");
        // Only 5 is right, at place 2.
        repaired(6, -1, 2, 3, 2);
        repaired(6, 0, 2, 2, 2);
        repaired(6, 1, 2, 1, 2);
        repaired(6, 2, 2, 3, 2);
        // Only 2 is right, at place 0.
        repaired(15, -1, 0, 1, 0);
        repaired(15, 0, 0, 3, 0);
        repaired(15, 1, 0, 2, 0);
        repaired(15, 2, 0, 1, 0);
        noneIsRight();
        theGuessAsTheLastOne();
        Edge.says("49", "(At least one is tried, also if the guess is right already.)");
        repaired(1, 0, 1, 1, 1);
        repaired(1, 2, 0, 1, 0);
        repaired(0, 1, 2, 1, 2);
        RankDesk one = Desks.of("matrix 1 1;row 1;prime 7;");
        one.probe(0);
        Edge.same(one.repair(), 0);
        Edge.same(one.count(6), 1);
        Edge.says("49", "Returns the place of the prime whose guess is right; NONE if there is none.");
        Edge.leaves(Edge::full, RankDesk::repair, "2", View.NOW, View.PAST);
        RankDesk fresh = new RankDesk();
        Edge.same(fresh.repair(), -1);
        Edge.same(fresh.count(6), 0);
        Edge.same(fresh.undoCount(), 1);
    }

    private static void noneIsRight() {
        RankDesk desk = Desks.of("matrix 1 1;row 6;prime 2;prime 3;");
        Edge.same(desk.repair(), -1);
        Edge.same(guess(desk), "-1 -1 -1 -1 -1");
        Edge.same(desk.count(6), 2);
        desk.probe(1);
        Edge.same(desk.repair(), -1);
        Edge.same(guess(desk), "1 0 0 0 1");
        Edge.same(desk.count(6), 4);
        // A guess that is right stays, too, though no prime tells it any more.
        desk.setEntry(0, 0, 1);
        desk.probe(0);
        desk.setEntry(0, 0, 6);
        Edge.same(desk.repair(), -1);
        Edge.same(guess(desk), "0 1 1 1 0");
        Edge.same(desk.count(6), 6);
        Edge.leaves(Edge.text("matrix 1 1;row 6;prime 2;prime 3;"), RankDesk::repair, "-1", View.NOW, View.PAST);
    }

    /** The guess is wrong because the matrix has changed; its own prime is the only one that is right then. */
    private static void theGuessAsTheLastOne() {
        int[] entries = {15, 10, 6};
        for (int place = 0; place < 3; place++) {
            RankDesk desk = guessing(0, place);
            desk.setEntry(0, 0, entries[place]);
            Edge.same(desk.guess(4), 1);
            Edge.same(desk.repair(), place);
            Edge.same(desk.count(6), 3);
            Edge.same(guess(desk), place + " 1 1 1 0");
            Edge.same(desk.count(5), 1);
        }
    }

    static void run() {
        guessedMinors();
        faults();
        values();
        probes();
        countedProbes();
        repairs();
    }
}
