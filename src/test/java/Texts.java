import java.nio.charset.StandardCharsets;

/** Puts texts into the input buffer of a season. */
final class Texts {
    private Texts() {
    }

    /** Appends a text, filled up with spaces to a multiple of 20 bytes; answers the last length of the buffer. */
    static int put(OrchestraSeason x, String text) {
        byte[] bytes = text.getBytes(StandardCharsets.ISO_8859_1);
        int length = 0;
        for (int i = 0; i < bytes.length; i += 20) {
            length = x.append(four(bytes, i), four(bytes, i + 4), four(bytes, i + 8), four(bytes, i + 12),
                    four(bytes, i + 16));
        }
        return length;
    }

    static int parse(OrchestraSeason x, String text) {
        put(x, text);
        return x.parse(text.length());
    }

    /** A new object with the season that a right text describes. */
    static OrchestraSeason season(String text) {
        OrchestraSeason x = new OrchestraSeason();
        Checks.due("parse of \"" + text + "\"", 0, parse(x, text));
        return x;
    }

    /** A new object answers a text with this error. */
    static void wrong(String text, int code, int position) {
        OrchestraSeason x = new OrchestraSeason();
        Checks.due("parse of \"" + text + "\"", code, parse(x, text));
        Checks.due("errorPosition() after \"" + text + "\"", position, x.errorPosition());
    }

    static int find(OrchestraSeason x, int kind, String name) {
        put(x, name);
        return x.find(kind);
    }

    private static int four(byte[] bytes, int at) {
        int value = 0;
        for (int i = at; i < at + 4; i++) {
            value = value << 8 | (i < bytes.length ? bytes[i] & 0xff : ' ');
        }
        return value;
    }
}
