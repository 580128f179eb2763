/**
 * Everything that can be seen of a desk, as texts. The past, the slots and the input can only be seen by changing the
 * desk, so that each look needs a desk of its own.
 */
enum View {
    NOW {
        @Override
        String of(RankDesk desk) {
            StringBuilder text = new StringBuilder();
            addCounts(text, desk);
            for (int row = 0; row < desk.count(0); row++) {
                for (int column = 0; column < desk.count(1); column++) {
                    add(text, "entry", desk.entry(row, column));
                }
                add(text, "vector", desk.vector(row));
            }
            for (int what = 0; what < 5; what++) {
                add(text, "guess", desk.guess(what));
            }
            addCertificate(text, desk);
            return text.toString();
        }
    },
    ERROR {
        @Override
        String of(RankDesk desk) {
            return desk.errorCode() + " at " + desk.errorPosition();
        }
    },
    OUTPUT {
        @Override
        String of(RankDesk desk) {
            StringBuilder text = new StringBuilder();
            for (int i = 0; i < 1000; i++) {
                int at = i;
                String told = Check.told(() -> desk.outputByte(at));
                if (told.startsWith("throws.")) {
                    return text.append(told).toString();
                }
                text.append(told).append(' ');
            }
            return text.toString();
        }
    },
    PAST {
        @Override
        String of(RankDesk desk) {
            StringBuilder text = new StringBuilder();
            for (int i = 0; i < 8; i++) {
                add(text, "undoCount", desk.undoCount());
                String told = Check.told(desk::undo);
                text.append(told).append('\n').append(NOW.of(desk));
                if (told.startsWith("throws.")) {
                    return text.toString();
                }
            }
            return text.append("it never ends").toString();
        }
    },
    SLOTS {
        @Override
        String of(RankDesk desk) {
            StringBuilder text = new StringBuilder();
            for (int slot = 0; slot < 2; slot++) {
                int at = slot;
                String told = Check.told(() -> desk.restore(at));
                text.append(told).append('\n').append(told.startsWith("throws.") ? "" : NOW.of(desk));
            }
            return text.toString();
        }
    },
    INPUT {
        @Override
        String of(RankDesk desk) {
            int length = inputLength(desk);
            int answer = desk.load();
            String loaded = length + " bytes, load() " + answer + ", " + ERROR.of(desk) + "\n";
            return answer < 0 ? loaded : loaded + NOW.of(desk);
        }
    };

    abstract String of(RankDesk desk);

    /** By a call of append(), which is taken back; if there is no room for it, by trying what truncate() takes. */
    private static int inputLength(RankDesk desk) {
        String told = Check.told(() -> desk.append(0, 0, 0, 0, 0));
        int length = told.startsWith("throws.") ? 400 : Integer.parseInt(told) - 20;
        while (length > 0 && !takes(desk, length)) {
            length--;
        }
        return length;
    }

    private static boolean takes(RankDesk desk, int length) {
        return Check.told(() -> {
            desk.truncate(length);
            return 0;
        }).equals("0");
    }

    private static void add(StringBuilder text, String name, long value) {
        text.append(name).append(' ').append(value).append('\n');
    }

    private static void addCounts(StringBuilder text, RankDesk desk) {
        for (int what = 0; what < 7; what++) {
            add(text, "count", desk.count(what));
        }
        for (int place = 0; place < desk.count(2); place++) {
            add(text, "prime", desk.prime(place));
        }
    }

    private static void addCertificate(StringBuilder text, RankDesk desk) {
        add(text, "rows", desk.claimed(0));
        add(text, "columns", desk.claimed(1));
        for (int relation = 0; relation < desk.count(4); relation++) {
            for (int row = 0; row < desk.count(0); row++) {
                add(text, "relation", desk.relationOf(relation, row));
            }
        }
    }
}
