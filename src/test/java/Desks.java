/** Makes desks for the tests and reads what they write. */
final class Desks {
    private Desks() {
    }

    /** Puts a text of any length up to 400 bytes into the input buffer, in place of what was there. */
    static void type(RankDesk desk, String text) {
        int length = text.length();
        desk.truncate(0);
        for (int i = 0; i < length; i += 20) {
            int[] words = new int[5];
            for (int k = 0; k < 20; k++) {
                int value = i + k < length ? text.charAt(i + k) & 255 : ' ';
                words[k / 4] = words[k / 4] << 8 | value;
            }
            desk.append(words[0], words[1], words[2], words[3], words[4]);
        }
        desk.truncate(length);
    }

    static int load(RankDesk desk, String text) {
        type(desk, text);
        return desk.load();
    }

    static RankDesk of(String text) {
        RankDesk desk = new RankDesk();
        int answer = load(desk, text);
        if (answer < 0) {
            throw new IllegalStateException("the test's own text has an error: " + text);
        }
        return desk;
    }

    static String written(RankDesk desk, int length) {
        StringBuilder text = new StringBuilder();
        for (int i = 0; i < length; i++) {
            text.append((char) desk.outputByte(i));
        }
        return text.toString();
    }

    static String matrix(RankDesk desk) {
        return written(desk, desk.writeMatrix());
    }

    static String certificate(RankDesk desk) {
        return written(desk, desk.writeCertificate());
    }
}
