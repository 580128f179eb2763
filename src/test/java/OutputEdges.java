/** The edges of the promises 60 and 63 to 65. */
final class OutputEdges {
    private OutputEdges() {
    }

    private static void written(String text, Edge.Ask write, String due) {
        RankDesk desk = Desks.of(text);
        int length = (int) write.of(desk);
        Edge.same(Desks.written(desk, length), due);
        Edge.same(Check.told(() -> desk.outputByte(length)), Edge.OUTSIDE);
    }

    private static void matrices() {
        Edge.says("60", "Writes the matrix to the output buffer, replacing its content: for each row its entries, separated by "
                + "spaces, and a newline. Numbers below 0 have a minus sign, here and below.");
        Edge.says("60", "Numbers below 0 have a minus sign");
        Edge.says("60", "Writes the matrix to the output buffer, replacing its content");
        written("matrix 1 1;", RankDesk::writeMatrix, "0\n");
        written("matrix 1 1;row -1;", RankDesk::writeMatrix, "-1\n");
        written("matrix 1 4;row 9,10,-9,-10;", RankDesk::writeMatrix, "9 10 -9 -10\n");
        written("matrix 6 6;" + "row -20,-20,-20,-20,-20,-20;".repeat(6), RankDesk::writeMatrix,
                "-20 -20 -20 -20 -20 -20\n".repeat(6));
        written("matrix 6 1;row 20;", RankDesk::writeMatrix, "20\n0\n0\n0\n0\n0\n");
        Edge.same(Desks.matrix(new RankDesk()), "0\n");
        RankDesk replaced = Desks.of("matrix 2 2;row -20,-20;row -20,-20;");
        replaced.writeMatrix();
        Desks.load(replaced, "matrix 1 1;row 7;");
        replaced.writeMatrix();
        Edge.same(View.OUTPUT.of(replaced), "55 10 " + Edge.OUTSIDE);
        Edge.says("60", "Returns the length of the output.");
        Edge.leaves(Edge::full, RankDesk::writeMatrix, "19", View.OUTPUT);
        Edge.leaves(RankDesk::new, RankDesk::writeMatrix, "2", View.OUTPUT);
    }

    private static void echelons() {
        Edge.says("63", "in each one the first number that is not 0 is 1, and the other rows have 0 in this column; rows are in "
                + "the order of these columns");
        for (int p : Edge.PRIMES) {
            written("matrix 1 1;row 0;", desk -> desk.writeEchelon(p), "");
            written("matrix 1 1;row 19;", desk -> desk.writeEchelon(p), p == 19 ? "" : "1\n");
            written("matrix 1 2;row 1,-1;", desk -> desk.writeEchelon(p), "1 " + (p - 1) + "\n");
            written("matrix 1 2;row -1,1;", desk -> desk.writeEchelon(p), "1 " + (p - 1) + "\n");
            written("matrix 2 2;row 0,1;row 1,0;", desk -> desk.writeEchelon(p), "1 0\n0 1\n");
        }
        written(Edge.THREE, desk -> desk.writeEchelon(2), "1 0 1\n0 1 0\n");
        written(Edge.THREE, desk -> desk.writeEchelon(5), "1 2 0\n0 0 1\n");
        written(Edge.THREE, desk -> desk.writeEchelon(7), "1 0 3\n0 1 0\n");
        written(RankEdges.TALL, desk -> desk.writeEchelon(3), "1 0\n0 1\n");
        written(RankEdges.WIDE, desk -> desk.writeEchelon(2), "1 0 1 0\n");
        written("matrix 2 3;row 0,0,3;row 0,2,1;", desk -> desk.writeEchelon(5), "0 1 0\n0 0 1\n");
        written("matrix 3 3;row 0,0,2;row 0,0,1;row 0,0,3;", desk -> desk.writeEchelon(97), "0 0 1\n");
        written(RankEdges.GREAT, desk -> desk.writeEchelon(5), "");
        written(RankEdges.GREAT, desk -> desk.writeEchelon(3), "1 0 0 0 0 0\n0 1 0 0 0 0\n0 0 1 0 0 0\n0 0 0 1 0 0\n"
                + "0 0 0 0 1 0\n0 0 0 0 0 1\n");
        Edge.says("63", "Its rows are sums of multiples of the rows of the matrix, as many as the rank");
        written("matrix 2 3;row 2,4,6;row 1,2,3;", desk -> desk.writeEchelon(7), "1 2 3\n");
        written("matrix 2 3;row 1,2,3;row 0,1,20;", desk -> desk.writeEchelon(97), "1 0 60\n0 1 20\n");
        Edge.says("63", "Writes the echelon form of the matrix modulo a prime to the output buffer, replacing its content.");
        RankDesk empty = Edge.full();
        Desks.load(empty, "matrix 1 1;");
        empty.writeMatrix();
        Edge.same(empty.writeEchelon(2), 0);
        Edge.same(View.OUTPUT.of(empty), Edge.OUTSIDE);
        Edge.says("63", "Each row has its numbers, from 0 to m - 1, separated by spaces, and a newline.");
        written("matrix 1 6;row 1,-20,20,-1,0,19;", desk -> desk.writeEchelon(97), "1 77 20 96 0 19\n");
        Edge.says("63", "Returns the length of the output.");
        Edge.leaves(Edge::full, desk -> desk.writeEchelon(7), "12", View.OUTPUT);
        Edge.leaves(Edge::full, desk -> desk.writeEchelon(97), "14", View.OUTPUT);
        Edge.says("63", "- `m`: a prime number, 2 to 97");
        Edge.moduli(Edge::full, false, RankDesk::writeEchelon);
        Edge.says("63", "Throws `IllegalArgumentException` if m is 0 or no modulus");
        Edge.moduli(RankDesk::new, false, RankDesk::writeEchelon);
        Edge.refuses(Edge::full, desk -> desk.writeEchelon(0), Edge.BAD_VALUE);
    }

    private static void rankTables() {
        Edge.says("64", "for each row i a digit for each column j, the rank of the part with the rows 0 to i and the columns 0 "
                + "to j, and a newline");
        written("matrix 1 1;", desk -> desk.writeRanks(0), "0\n");
        written("matrix 1 1;row -20;", desk -> desk.writeRanks(0), "1\n");
        written(Edge.THREE, desk -> desk.writeRanks(0), "111\n111\n122\n");
        written(Edge.THREE, desk -> desk.writeRanks(2), "000\n111\n122\n");
        written(Edge.THREE, desk -> desk.writeRanks(5), "111\n111\n112\n");
        written(RankEdges.WIDE, desk -> desk.writeRanks(0), "1111\n1222\n");
        written(RankEdges.WIDE, desk -> desk.writeRanks(2), "1111\n1111\n");
        written(RankEdges.TALL, desk -> desk.writeRanks(0), "11\n11\n12\n12\n");
        written(RankEdges.CYCLE, desk -> desk.writeRanks(0), "011\n012\n123\n");
        written(RankEdges.GREAT, desk -> desk.writeRanks(2), "000000\n".repeat(6));
        written(RankEdges.PRIME_DIAGONAL, desk -> desk.writeRanks(0), "111111\n122222\n123333\n123444\n123455\n123456\n");
        Edge.says("64", "Returns the length of the output.");
        Edge.leaves(Edge::full, desk -> desk.writeRanks(0), "12", View.OUTPUT);
        Edge.leaves(RankDesk::new, desk -> desk.writeRanks(0), "2", View.OUTPUT);
        Edge.says("64", "Throws `IllegalArgumentException` if m is no modulus");
        Edge.moduli(Edge::full, true, RankDesk::writeRanks);
    }

    private static RankDesk withOutput(String text) {
        RankDesk desk = Desks.of(text);
        desk.writeMatrix();
        return desk;
    }

    private static void bytes() {
        Edge.says("65", "Returns the byte at that index.");
        Edge.asks(() -> withOutput("matrix 1 2;row -1,2;"), desk -> desk.outputByte(0), 45);
        Edge.asks(() -> withOutput("matrix 1 2;row -1,2;"), desk -> desk.outputByte(1), 49);
        Edge.asks(() -> withOutput("matrix 1 2;row -1,2;"), desk -> desk.outputByte(2), 32);
        Edge.asks(() -> withOutput("matrix 1 2;row -1,2;"), desk -> desk.outputByte(4), 10);
        Edge.asks(Edge::full, desk -> desk.outputByte(11), 10);
        Edge.says("65", "Throws `IndexOutOfBoundsException` if index is negative or not less than the output's length");
        Edge.numbered(() -> withOutput("matrix 1 2;row -1,2;"), 5, RankDesk::outputByte, 45, 10);
        Edge.numbered(Edge::full, 12, RankDesk::outputByte, 48, 10);
        String great = "matrix 6 6;" + "row -20,-20,-20,-20,-20,-20;".repeat(6);
        Edge.answers(() -> withOutput(great), desk -> desk.outputByte(143), 10);
        Edge.refuses(() -> withOutput(great), desk -> desk.outputByte(144), Edge.OUTSIDE);
        Edge.refuses(RankDesk::new, desk -> desk.outputByte(0), Edge.OUTSIDE);
        Edge.refuses(RankDesk::new, desk -> desk.outputByte(-1), Edge.OUTSIDE);
        // A shorter output behind a longer one, and the output of a call that throws.
        RankDesk shorter = withOutput(great);
        shorter.writeRanks(0);
        Edge.same(Check.told(() -> shorter.outputByte(41)), 10);
        Edge.same(Check.told(() -> shorter.outputByte(42)), Edge.OUTSIDE);
        Edge.same(Check.told(() -> shorter.writeEchelon(4)), Edge.BAD_VALUE);
        Edge.same(Check.told(() -> shorter.outputByte(41)), 10);
    }

    static void run() {
        matrices();
        echelons();
        rankTables();
        bytes();
    }
}
