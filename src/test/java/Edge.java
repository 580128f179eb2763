/**
 * Checks of one sentence of the document at a time. Each check makes its desks anew; for a call that may not change
 * anything, a desk that was called is compared with one that was not, in every view.
 */
final class Edge {
    interface Maker {
        RankDesk make();
    }

    interface Ask {
        long of(RankDesk desk);
    }

    interface At {
        long of(RankDesk desk, int number);
    }

    static final String OUTSIDE = "throws.IndexOutOfBoundsException";
    static final String BAD_VALUE = "throws.IllegalArgumentException";
    static final String BAD_STATE = "throws.IllegalStateException";
    static final String MISSING = "throws.NoSuchElementException";
    static final int[] PRIMES = {2, 3, 5, 7, 11, 13, 17, 19, 23, 29, 31, 37, 41, 43, 47, 53, 59, 61, 67, 71, 73, 79, 83,
        89, 97};

    static final String THREE = "matrix 3 3;row 2,4,6;row 1,2,3;row 3,1,-5;prime 2;prime 5;prime 7;";

    private static final Paper PAPER = new Paper();
    private static final View[] NOTHING = {};
    private static String sentence = "";

    private Edge() {
    }

    /** The words of the document that the checks behind it are about. */
    static void says(String part, String words) {
        sentence = part + " \"" + words + "\"";
        Check.isTrue("the document says " + sentence, PAPER.quote(part, words));
    }

    static Maker text(String text) {
        return () -> Desks.of(text);
    }

    /** A desk with something everywhere: a guess, a certificate, six calls to undo, a slot, both buffers, an error. */
    static RankDesk full() {
        RankDesk desk = Desks.of(THREE);
        desk.keep(1);
        Desks.load(desk, "matrix 1 1;row 30;");
        desk.repair();
        desk.probe(0);
        desk.setVector(0, -1);
        desk.setVector(1, 2);
        desk.addRelation();
        desk.claim(6, 3);
        desk.setVector(2, 5);
        desk.addRelation();
        desk.writeRanks(2);
        Desks.type(desk, "matrix 2 1;row 7;prime 3;");
        return desk;
    }

    static boolean isPrime(int number) {
        for (int prime : PRIMES) {
            if (prime == number) {
                return true;
            }
        }
        return false;
    }

    private static String label() {
        String line = StackWalker.getInstance().walk(frames -> frames.map(StackWalker.StackFrame::toStackTraceElement)
                .filter(frame -> frame.getClassName().endsWith("Edges")).findFirst()
                .map(frame -> frame.getFileName() + ":" + frame.getLineNumber()).orElse(""));
        return sentence + " " + line;
    }

    static void same(Object got, Object due) {
        Check.same(label(), got, due);
    }

    static String told(RankDesk desk, Ask ask) {
        return Check.told(() -> ask.of(desk));
    }

    static void answers(Maker maker, Ask ask, long due) {
        same(told(maker.make(), ask), due);
    }

    /** The call answers, and nothing changes. */
    static void asks(Maker maker, Ask ask, long due) {
        leaves(maker, ask, String.valueOf(due), NOTHING);
    }

    /** The call throws, and nothing changes. */
    static void refuses(Maker maker, Ask ask, String exception) {
        leaves(maker, ask, exception, NOTHING);
    }

    /** The call answers or throws as is due, and nothing changes but in some views. */
    static void leaves(Maker maker, Ask ask, String due, View... changing) {
        for (View view : View.values()) {
            RankDesk called = maker.make();
            same(told(called, ask), due);
            boolean mayChange = false;
            for (View other : changing) {
                mayChange |= other == view;
            }
            if (!mayChange) {
                same(view + "\n" + view.of(called), view + "\n" + view.of(maker.make()));
            }
        }
    }

    /** Numbers from 0 to size - 1 are taken; the first and the last one answer as is due. */
    static void numbered(Maker maker, int size, At at, long first, long last) {
        answers(maker, desk -> at.of(desk, 0), first);
        answers(maker, desk -> at.of(desk, size - 1), last);
        for (int number : new int[] {-1, size, size + 1, 64, Integer.MIN_VALUE, Integer.MAX_VALUE}) {
            refuses(maker, desk -> at.of(desk, number), OUTSIDE);
        }
    }

    /** Numbers from least to greatest are taken; the first and the last one answer as is due. */
    static void ranges(Maker maker, int least, int greatest, At at, long first, long last) {
        answers(maker, desk -> at.of(desk, least), first);
        answers(maker, desk -> at.of(desk, greatest), last);
        for (int number : new int[] {least - 1, greatest + 1, Integer.MIN_VALUE, Integer.MAX_VALUE}) {
            refuses(maker, desk -> at.of(desk, number), BAD_VALUE);
        }
    }

    /** All primes from 2 to 97 are taken, and 0 if it may be; no other number is. */
    static void moduli(Maker maker, boolean alsoIntegers, At at) {
        for (int m = -3; m <= 110; m++) {
            int modulus = m;
            if (isPrime(m) || m == 0 && alsoIntegers) {
                same(told(maker.make(), desk -> at.of(desk, modulus)).startsWith("throws."), false);
            } else {
                refuses(maker, desk -> at.of(desk, modulus), BAD_VALUE);
            }
        }
        for (int m : new int[] {127, 258, Integer.MIN_VALUE, Integer.MIN_VALUE + 2, Integer.MAX_VALUE}) {
            refuses(maker, desk -> at.of(desk, m), BAD_VALUE);
        }
    }

    /** The set of all size numbers is taken, and none that has another bit. */
    static void sets(Maker maker, int size, At at, long ofNone, long ofAll) {
        answers(maker, desk -> at.of(desk, 0), ofNone);
        answers(maker, desk -> at.of(desk, (1 << size) - 1), ofAll);
        for (int set : new int[] {1 << size, 1 << size | 1, 64, 128, 1 << 30, -1, Integer.MIN_VALUE}) {
            refuses(maker, desk -> at.of(desk, set), BAD_VALUE);
        }
    }

    static void everySentenceIsQuoted() {
        Check.same("sentences of the document without a test", String.join("\n", PAPER.unquoted()), "");
        Check.same("promises", PAPER.promises(), 65);
    }
}
