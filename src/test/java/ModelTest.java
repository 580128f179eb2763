import java.lang.reflect.InvocationTargetException;
import java.lang.reflect.Method;
import java.util.ArrayList;
import java.util.List;
import java.util.Random;

/** Long runs of calls, chosen by a fixed seed, on a desk and on the model: each answer has to be the same. */
public final class ModelTest {
    private static final int[] PRIMES = {2, 3, 5, 7, 11, 13, 17, 19, 23, 29, 89, 97};
    private static final String[] CALLS = {"append", "truncate", "load", "errorCode", "errorPosition", "count",
        "prime", "entry", "rank", "rankOf", "minor", "rowProfile", "columnProfile", "pivot", "divisor", "unlucky",
        "nextUnlucky", "relation", "columnRelation", "relationMod", "weight", "nullity", "isNeeded",
        "areIndependent", "bases", "extensions", "closure", "invariant", "circuits", "circuit", "spoils", "guessed",
        "guess", "vector", "product", "claimed", "relationOf", "head", "holds", "flaw", "setEntry", "swapRows",
        "swapColumns", "addRow", "negateRow", "transpose", "probe", "repair", "setVector", "claim", "addRelation",
        "dropRelation", "certify", "clearCertificate", "keep", "restore", "undo", "undoCount", "writeMatrix",
        "writeRelation", "writeCertificate", "writeEchelon", "writeRanks", "outputByte"};

    private final Random random;
    private final RankDesk desk = new RankDesk();
    private final Model model = new Model();
    private final List<String> trail = new ArrayList<>();
    private int used = 0;
    private boolean isSame = true;

    private ModelTest(long seed) {
        random = new Random(seed);
    }

    private static String answer(Object object, String name, int... arguments) {
        try {
            for (Method method : object.getClass().getMethods()) {
                if (method.getName().equals(name) && method.getParameterCount() == arguments.length
                        && method.getDeclaringClass() != Object.class) {
                    Object[] boxed = new Object[arguments.length];
                    for (int i = 0; i < boxed.length; i++) {
                        boxed[i] = arguments[i];
                    }
                    return String.valueOf(method.invoke(object, boxed));
                }
            }
            throw new IllegalStateException("no method " + name);
        } catch (InvocationTargetException e) {
            return "throws." + e.getCause().getClass().getSimpleName();
        } catch (IllegalAccessException e) {
            throw new IllegalStateException(e);
        }
    }

    private void both(String name, int... arguments) {
        if (!isSame || used >= 512) {
            return;
        }
        used++;
        String call = name + java.util.Arrays.toString(arguments);
        String got = answer(desk, name, arguments);
        String due = answer(model, name, arguments);
        trail.add(call + " " + got);
        Check.same(call, got, due);
        if (!got.equals(due)) {
            isSame = false;
            if (Check.wrongSoFar() < 5) {
                System.out.println(String.join("\n", trail));
            }
        }
    }

    private int odd() {
        int[] odd = {-1, 6, 7, 64, 100, 1, 4, Integer.MAX_VALUE, Integer.MIN_VALUE, -64, 400};
        return odd[random.nextInt(odd.length)];
    }

    private boolean rarely() {
        return random.nextInt(25) == 0;
    }

    private int below(int bound) {
        return rarely() ? odd() : random.nextInt(bound);
    }

    private int modulus() {
        return rarely() ? odd() : random.nextInt(3) == 0 ? 0 : PRIMES[random.nextInt(PRIMES.length)];
    }

    private int row() {
        return below(desk.count(0));
    }

    private int column() {
        return below(desk.count(1));
    }

    private int rows() {
        return below(1 << desk.count(0));
    }

    private int columns() {
        return below(1 << desk.count(1));
    }

    private int columnsLike(int rows) {
        int all = 1 << desk.count(1);
        int columns = random.nextInt(all);
        for (int i = 0; i < 40 && Integer.bitCount(columns) != Integer.bitCount(rows); i++) {
            columns = random.nextInt(all);
        }
        return rarely() ? columns() : columns;
    }

    private int value(int bound) {
        return rarely() ? bound + random.nextInt(3) - 1 : random.nextInt(2 * bound + 1) - bound;
    }

    private String number(int least, int greatest) {
        String number = String.valueOf(least + random.nextInt(greatest - least + 1));
        return random.nextInt(30) == 0 ? "000" + number : number;
    }

    private String text() {
        int height = 1 + random.nextInt(6);
        int width = 1 + random.nextInt(6);
        StringBuilder text = new StringBuilder("matrix " + height + " " + width + ";\n");
        int spread = new int[] {1, 2, 4, 20}[random.nextInt(4)];
        int factor = new int[] {1, 1, 2, 3, 5}[random.nextInt(5)];
        int[][] a = new int[height][width];
        for (int i = 0; i < height; i++) {
            boolean isCopy = i > 0 && random.nextInt(3) == 0;
            for (int j = 0; j < width; j++) {
                int value = random.nextInt(2 * spread + 1) - spread;
                a[i][j] = isCopy ? a[random.nextInt(i)][j] : random.nextInt(4) == 0 ? 0 : value;
            }
            if (i > 1 && random.nextInt(3) == 0) {
                for (int j = 0; j < width; j++) {
                    a[i][j] = a[i - 1][j] - a[i - 2][j];
                }
            }
        }
        int told = random.nextInt(5) == 0 ? random.nextInt(height + 2) : height;
        int primes = random.nextInt(8) == 0 ? random.nextInt(8) : random.nextInt(5);
        for (int i = 0; i < told || primes > 0;) {
            if (primes > 0 && (i >= told || random.nextInt(3) == 0)) {
                text.append("prime ").append(prime()).append(";");
                primes--;
            } else {
                text.append("row ").append(rowText(i < height ? a[i] : a[0], factor)).append("; ");
                i++;
            }
        }
        return random.nextInt(4) == 0 ? spoiled(text) : text.toString();
    }

    private String prime() {
        return random.nextInt(30) == 0 ? number(0, 110) : String.valueOf(PRIMES[random.nextInt(PRIMES.length)]);
    }

    private String rowText(int[] row, int factor) {
        StringBuilder text = new StringBuilder();
        for (int value : row) {
            int clipped = Math.max(-20, Math.min(20, value * factor));
            text.append(text.length() == 0 ? "" : ",").append(clipped);
        }
        return text.toString();
    }

    private String spoiled(StringBuilder text) {
        String[] pieces = {";", ",", "-", " ", "\n", "matrix", "row", "prime", "0", "7", "21", "\t", "x", "\u00e9", "97",
            "99999999999999999999"};
        for (int i = random.nextInt(3); i >= 0; i--) {
            int at = random.nextInt(Math.max(1, text.length()));
            switch (random.nextInt(3)) {
                case 0:
                    text.insert(Math.min(at, text.length()), pieces[random.nextInt(pieces.length)]);
                    break;
                case 1:
                    text.delete(at, at + 1);
                    break;
                default:
                    text.setLength(Math.min(at + 1, text.length()));
                    break;
            }
        }
        return text.toString();
    }

    private void loadText() {
        String text = text();
        int length = Math.min(text.length(), 380);
        both("truncate", 0);
        for (int i = 0; i < length; i += 20) {
            int[] words = new int[5];
            for (int k = 0; k < 20; k++) {
                words[k / 4] = words[k / 4] << 8 | (i + k < length ? text.charAt(i + k) & 255 : ' ');
            }
            both("append", words);
        }
        both("truncate", length);
        both("load");
        both("errorCode");
        both("errorPosition");
    }

    private void state() {
        for (int what = 0; what < 7; what++) {
            both("count", what);
        }
        for (int what = 0; what < 5; what++) {
            both("guess", what);
        }
        both("flaw");
        both("undoCount");
        both("writeMatrix");
        output();
        both("writeCertificate");
        output();
    }

    private void output() {
        for (int i = 0; i < 4; i++) {
            both("outputByte", below(60));
        }
    }

    private void someCall() {
        String name = CALLS[random.nextInt(CALLS.length)];
        switch (name) {
            case "append":
                both(name, odd(), odd(), odd(), odd(), odd());
                break;
            case "truncate":
                both(name, below(60));
                break;
            case "load":
                if (random.nextInt(3) == 0) {
                    loadText();
                } else {
                    both("undoCount");
                }
                break;
            case "count":
                both(name, below(7));
                break;
            case "prime":
            case "probe":
                both(name, below(Math.max(1, desk.count(2))));
                break;
            case "entry":
            case "spoils":
                both(name, row(), column());
                break;
            case "rankOf":
                both(name, modulus(), rows(), columns());
                break;
            case "minor":
            case "claim": {
                int rows = rows();
                both(name, rows, columnsLike(rows));
                break;
            }
            case "guessed": {
                int rows = rows();
                both(name, rows, columnsLike(rows), below(desk.count(2) + 1));
                break;
            }
            case "rank":
            case "rowProfile":
            case "columnProfile":
            case "nullity":
            case "bases":
            case "circuits":
                both(name, modulus());
                break;
            case "writeEchelon":
            case "writeRanks":
                both(name, modulus());
                output();
                break;
            case "pivot":
            case "isNeeded":
            case "circuit":
                both(name, modulus(), row());
                break;
            case "divisor":
            case "invariant":
                both(name, below(7));
                break;
            case "nextUnlucky":
                both(name, rarely() ? odd() : 2 + random.nextInt(97));
                break;
            case "relation":
            case "swapRows":
                both(name, row(), row());
                break;
            case "columnRelation":
            case "swapColumns":
                both(name, column(), column());
                break;
            case "relationMod":
                both(name, modulus(), row(), row());
                break;
            case "weight":
            case "vector":
            case "negateRow":
                both(name, row());
                break;
            case "writeRelation":
                both(name, row());
                output();
                break;
            case "areIndependent":
            case "extensions":
            case "closure":
                both(name, modulus(), rows());
                break;
            case "guess":
                both(name, below(5));
                break;
            case "product":
                both(name, column());
                break;
            case "claimed":
            case "keep":
            case "restore":
                both(name, below(2));
                break;
            case "relationOf":
                both(name, below(Math.max(1, desk.count(4))), row());
                break;
            case "head":
            case "holds":
            case "dropRelation":
                both(name, below(Math.max(1, desk.count(4))));
                break;
            case "setEntry":
                both(name, row(), column(), value(20));
                break;
            case "addRow":
                both(name, row(), row(), random.nextBoolean() ? value(9) : random.nextInt(3) - 1);
                break;
            case "setVector":
                both(name, row(), random.nextInt(3) == 0 ? value(9999) : random.nextInt(3) - 1);
                break;
            case "outputByte":
                both(name, below(40));
                break;
            default:
                both(name);
                break;
        }
    }

    private void run() {
        if (random.nextInt(8) != 0) {
            loadText();
        }
        for (int i = 0; i < 512 && used < 512 && isSame; i++) {
            someCall();
            if (random.nextInt(20) == 0) {
                state();
            }
        }
    }

    public static void main(String[] args) {
        int runs = args.length > 0 ? Integer.parseInt(args[0]) : 1200;
        for (int seed = 1; seed <= runs; seed++) {
            new ModelTest(seed).run();
        }
        Check.end();
    }
}
