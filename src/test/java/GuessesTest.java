/** Promises 7 (5 and 6), 33, 34, 48 and 49: what primes know of minors and ranks. */
public final class GuessesTest {
    private static final String THREE = "matrix 3 3;row 2,4,6;row 1,2,3;row 3,1,-5;prime 2;prime 5;prime 7;";

    private static String guess(RankDesk desk) {
        StringBuilder text = new StringBuilder();
        for (int what = 0; what < 5; what++) {
            text.append(desk.guess(what)).append(' ');
        }
        return text.toString();
    }

    private static void guessedMinors() {
        RankDesk desk = Desks.of(THREE);
        Check.answers("33 no primes", () -> desk.guessed(5, 5, 0), 0);
        Check.answers("33 -28 modulo 2", () -> desk.guessed(5, 5, 1), 0);
        Check.answers("33 -28 modulo 10", () -> desk.guessed(5, 5, 2), 2);
        Check.answers("33 -28 modulo 70", () -> desk.guessed(5, 5, 3), -28);
        Check.answers("33 -13 modulo 2, the positive one", () -> desk.guessed(6, 6, 1), 1);
        Check.answers("33 -13 modulo 10", () -> desk.guessed(6, 6, 2), -3);
        Check.answers("33 -5 modulo 10, the positive one", () -> desk.guessed(4, 4, 2), 5);
        Check.answers("33 empty sets", () -> desk.guessed(0, 0, 3), 1);
        Check.isBadValue("33 primes", () -> desk.guessed(1, 1, 4));
        Check.isBadValue("33 primes", () -> desk.guessed(1, 1, -1));
        Check.isBadValue("33 sizes", () -> desk.guessed(3, 1, 1));
        Check.isBadValue("33 rows", () -> desk.guessed(8, 1, 1));
        Check.isBadValue("33 columns", () -> desk.guessed(1, 8, 1));
        RankDesk great = Desks.of("matrix 1 1;row -20;prime 97;prime 89;prime 83;prime 79;prime 73;prime 71;");
        Check.answers("33 great primes", () -> great.guessed(1, 1, 6), -20);
        Check.answers("33 one great prime", () -> great.guessed(1, 1, 1), -20);
    }

    private static void probes() {
        RankDesk desk = Desks.of(THREE);
        Check.same("34 no guess", guess(desk), "-1 -1 -1 -1 -1 ");
        Check.isBadValue("34 what", () -> desk.guess(5));
        Check.isBadValue("34 what", () -> desk.guess(-1));
        Check.answers("48 row profile", () -> desk.probe(0), 2);
        Check.same("34 by 2", guess(desk), "0 2 6 3 2 ");
        Check.answers("48 column profile", () -> desk.probe(1), 3);
        Check.same("34 by 5", guess(desk), "1 2 5 5 3 ");
        Check.answers("48 right", () -> desk.probe(2), 0);
        Check.same("34 by 7", guess(desk), "2 2 5 3 0 ");
        Check.isOutside("48 place", () -> desk.probe(3));
        Check.isOutside("48 place", () -> desk.probe(-1));
        Check.isOutside("48 no primes", () -> new RankDesk().probe(0));
        Check.same("34 stays", guess(desk), "2 2 5 3 0 ");
        desk.setEntry(0, 0, 0);
        Check.same("34 the rank changed", guess(desk), "2 2 5 3 1 ");
        desk.undo();
        desk.transpose();
        Check.same("34 behind transpose", guess(desk), "2 2 5 3 2 ");
        RankDesk less = Desks.of("matrix 2 2;row 2,0;row 0,3;prime 3;");
        Check.answers("48 rank", () -> less.probe(0), 1);
    }

    private static void countedProbes() {
        RankDesk desk = Desks.of(THREE);
        desk.probe(0);
        Check.answers("7 the first guess", () -> desk.count(5), 1);
        desk.probe(0);
        Check.answers("7 the same guess", () -> desk.count(5), 1);
        desk.probe(2);
        Check.answers("7 another prime", () -> desk.count(5), 2);
        desk.setEntry(1, 0, 0);
        desk.probe(2);
        Check.answers("7 another rank", () -> desk.count(5), 3);
        desk.undo();
        Check.answers("7 undone", () -> desk.count(5), 2);
        desk.undo();
        desk.swapRows(1, 2);
        desk.probe(2);
        Check.answers("7 another row profile", () -> desk.count(5), 3);
        desk.swapColumns(1, 2);
        desk.probe(2);
        Check.answers("7 another column profile", () -> desk.count(5), 4);
        desk.repair();
        desk.probe(desk.guess(0));
        Check.answers("7 made by repair", () -> desk.count(5), 4);
        Check.answers("7 tries", () -> desk.count(6), 2);
    }

    private static void repairs() {
        RankDesk desk = Desks.of(THREE);
        Check.answers("49 from place 0 on", desk::repair, 2);
        Check.answers("49 tries", () -> desk.count(6), 3);
        Check.answers("49 no probe", () -> desk.count(5), 0);
        Check.same("49 guess", guess(desk), "2 2 5 3 0 ");
        Check.answers("49 right already", desk::repair, 2);
        Check.answers("49 around", () -> desk.count(6), 6);
        desk.probe(1);
        Check.answers("49 behind the guess", desk::repair, 2);
        Check.answers("49 tries", () -> desk.count(6), 7);
        Check.answers("49 no probe", () -> desk.count(5), 1);
        RankDesk none = Desks.of("matrix 1 1;row 6;prime 3;prime 2;");
        Check.answers("49 none", none::repair, -1);
        Check.answers("49 no guess stays", () -> none.guess(0), -1);
        Check.answers("49 tries", () -> none.count(6), 2);
        none.probe(1);
        none.setEntry(0, 0, 12);
        Check.answers("49 none", none::repair, -1);
        Check.same("49 guess stays", guess(none), "1 0 0 0 1 ");
        Check.answers("49 each prime once", () -> none.count(6), 4);
        Check.answers("49 can be undone", none::undoCount, 5);
        RankDesk bare = new RankDesk();
        Check.answers("49 no primes", bare::repair, -1);
        Check.answers("49 no tries", () -> bare.count(6), 0);
        Check.answers("49 can be undone", bare::undoCount, 1);
    }

    private static void repairsAround() {
        RankDesk desk = Desks.of("matrix 1 1;row 6;prime 5;prime 3;prime 2;");
        desk.probe(1);
        Check.answers("49 around the end", desk::repair, 0);
        Check.answers("49 tries", () -> desk.count(6), 2);
        desk.setEntry(0, 0, 15);
        Check.answers("49 from place 1 on", desk::repair, 2);
        Check.answers("49 tries", () -> desk.count(6), 4);
        desk.setEntry(0, 0, 10);
        desk.probe(1);
        desk.setEntry(0, 0, 20);
        Check.answers("49 that of the guess as the last one", desk::repair, 1);
        Check.answers("49 tries", () -> desk.count(6), 7);
        Check.same("49 guess", guess(desk), "1 1 1 1 0 ");
    }

    public static void main(String[] args) {
        guessedMinors();
        probes();
        countedProbes();
        repairs();
        repairsAround();
        Check.end();
    }
}
