/** Promises 1 to 6, the sentences that name a boundary case: a new object, the input buffer, counts and names. */
final class BufferBoundaryTest {
    private static final int BLANK = 0x20202020;
    private static final int LEAST = Integer.MIN_VALUE;
    private static final int MOST = Integer.MAX_VALUE;
    private static final String RICH = "days 3;hall a 0;hall b 0;player p 1 5 x y;player q 2 6 y;work w 0 0 2 7 x;"
            + "work v 1 0 2 9 y;double 8;absent q 2;";
    private static final String FULL = "days 30;hall a 0;hall b 1;hall c 9;player p 0 0 i j k l;player q 0 0 m n o p;"
            + "player r 0 0 i;player s 0 0 i;player t 0 0 i;player u 0 0 i;player v 0 0 i;player w 0 0 i;"
            + "work a 0 0 29 0 i;work b 0 0 29 0 i;work c 0 0 29 0 i;work d 0 0 29 0 i;work e 0 0 29 0 i;double 999;";

    private BufferBoundaryTest() {
    }

    static void run() {
        Sentences.test(1, "Creates a season of one day, without anything else, with an empty input buffer.",
                BufferBoundaryTest::newObject);
        Sentences.test(1, "An object is used for at most 512 calls after it has been made",
                BufferBoundaryTest::fiveHundredTwelveCalls);
        Sentences.test(2, "Appends 20 bytes to the input buffer: the four bytes of each argument, the most significant "
                + "byte first.", BufferBoundaryTest::placesOfBytes);
        Sentences.test(2, "Returns the new length of the buffer", BufferBoundaryTest::newLengths);
        Sentences.test(2, "NONE, with nothing appended, if it would exceed 600.", BufferBoundaryTest::fullBuffer);
        Sentences.test(3, "`length`: 0 to the length of the buffer", BufferBoundaryTest::lengthsOfTexts);
        Sentences.test(3, "Throws `IllegalArgumentException` if length is out of range",
                BufferBoundaryTest::lengthsOutOfRange);
        Sentences.test(3, "Parses the first length bytes of the input buffer as a text.",
                BufferBoundaryTest::firstBytesAlone);
        Sentences.test(3, "On success the described season replaces the current one.",
                BufferBoundaryTest::seasonReplaced);
        Sentences.test(3, "On a parse error nothing changes except that the whole buffer is emptied",
                BufferBoundaryTest::errorChangesNothing);
        Sentences.test(3, "it is also empty after a success.", BufferBoundaryTest::emptyAfterSuccess);
        Sentences.test(3, "Returns 0 on success; the code of the parse error.", BufferBoundaryTest::answersOfParse);
        Sentences.test(4, "Returns the position of the parse error of the last call of parse that did not throw an "
                + "exception.", BufferBoundaryTest::lastErrorPosition);
        Sentences.test(4, "Returns the position; NONE if that call succeeded or there was none.",
                BufferBoundaryTest::noErrorPosition);
        Sentences.test(5, "`what`: 0 days, 1 halls, 2 players, 3 works, 4 instruments, 5 services, 6 the fee of double, "
                + "7 changes that can be undone", BufferBoundaryTest::leastAndMostSizes);
        Sentences.test(5, "Throws `IllegalArgumentException` if what is out of range",
                BufferBoundaryTest::sizesOutOfRange);
        Sentences.test(6, "Finds something by its name, which the input buffer contains",
                BufferBoundaryTest::namesInBuffer);
        Sentences.test(6, "bytes 32 may stand behind it", BufferBoundaryTest::spacesBehindNames);
        Sentences.test(6, "(with anything else in the buffer nothing has this name)",
                BufferBoundaryTest::anythingElseInBuffer);
        Sentences.test(6, "The buffer is empty afterwards", BufferBoundaryTest::emptyAfterFind);
        Sentences.test(6, "unless an exception is thrown.", BufferBoundaryTest::keptByRefusedFind);
        Sentences.test(6, "`kind`: 0 a hall, 1 a player, 2 a work, 3 an instrument",
                BufferBoundaryTest::kindsAreApart);
        Sentences.test(6, "Returns its number; NONE if there is none with this name.",
                BufferBoundaryTest::firstAndLastNames);
        Sentences.test(6, "Throws `IllegalArgumentException` if kind is out of range",
                BufferBoundaryTest::kindsOutOfRange);
    }

    private static void bufferLength(String when, OrchestraSeason x, int length) {
        Checks.due(when + ", append", length + 20, x.append(BLANK, BLANK, BLANK, BLANK, BLANK));
    }

    // ---- promise 1

    private static void newObject() {
        OrchestraSeason x = new OrchestraSeason();
        Checks.due("size(0)", 1, x.size(0));
        for (int what = 1; what <= 7; what++) {
            Checks.due("size(" + what + ")", 0, x.size(what));
        }
        for (int what = 0; what <= 3; what++) {
            Checks.due("costs(" + what + ")", 0, x.costs(what));
            Checks.due("find(" + what + ")", -1, x.find(what));
        }
        Checks.dueTrue("isBalanced()", x.isBalanced());
        Checks.dueTrue("isWithoutClash()", x.isWithoutClash());
        Checks.due("busiest()", -1, x.busiest());
        Checks.due("undo()", -1, x.undo());
        Checks.due("errorPosition()", -1, x.errorPosition());
        Checks.badState("restoreSnapshot(0)", () -> x.restoreSnapshot(0));
        Checks.badState("restoreSnapshot(1)", () -> x.restoreSnapshot(1));
        Checks.badArgument("parse(1)", () -> x.parse(1));
        nothingToNumber(x);
        bufferLength("the first call", new OrchestraSeason(), 0);
        OrchestraSeason y = new OrchestraSeason();
        Checks.dueFalse("saveSnapshot(0)", y.saveSnapshot(0));
        Checks.dueFalse("saveSnapshot(1)", y.saveSnapshot(1));
        Checks.due("restoreSnapshot(0)", 0, y.restoreSnapshot(0));
    }

    private static void nothingToNumber(OrchestraSeason x) {
        Checks.outOfBounds("turn(0)", () -> x.turn(0));
        Checks.outOfBounds("player(0, 0)", () -> x.player(0, 0));
        Checks.outOfBounds("isFree(0, 0)", () -> x.isFree(0, 0) ? 1 : 0);
        Checks.outOfBounds("work(0, 0)", () -> x.work(0, 0));
        Checks.outOfBounds("seat(0, 0)", () -> x.seat(0, 0));
        Checks.outOfBounds("service(0, 0)", () -> x.service(0, 0));
        Checks.outOfBounds("cast(0, 0, 0)", () -> x.cast(0, 0, 0));
        Checks.outOfBounds("serviceAt(0, 0)", () -> x.serviceAt(0, 0));
        Checks.outOfBounds("fewestDoublings(0, 0)", () -> x.fewestDoublings(0, 0));
        Checks.outOfBounds("whyNot(0, 0, 1, true)", () -> x.whyNot(0, 0, 1, true));
        Checks.outOfBounds("earliest(0, 0, 1, true)", () -> x.earliest(0, 0, 1, true));
        Checks.outOfBounds("whyNotMove(0, 0)", () -> x.whyNotMove(0, 0));
        Checks.outOfBounds("costsWith(0, 0, 1, true)", () -> x.costsWith(0, 0, 1, true));
        Checks.outOfBounds("rehearse(0, 0, 0)", () -> x.rehearse(0, 0, 0));
        Checks.outOfBounds("concert(0, 0, 1)", () -> x.concert(0, 0, 1));
        Checks.outOfBounds("cancel(0)", () -> x.cancel(0));
        Checks.outOfBounds("move(0, 0)", () -> x.move(0, 0));
        Checks.outOfBounds("recast(0)", () -> x.recast(0));
        Checks.outOfBounds("setContract(0, 0)", () -> x.setContract(0, 0));
    }

    private static void fiveHundredTwelveCalls() {
        OrchestraSeason x = Texts.season("days 1;player p 1 1 a;");
        int calls = 3;
        int previous = 1;
        for (; calls < 511; calls++) {
            Checks.due("call " + (calls + 1), previous, x.setContract(0, calls % 41));
            previous = calls % 41;
        }
        Checks.due("call 512, undo()", 9, x.undo());
        OrchestraSeason y = new OrchestraSeason();
        for (calls = 0; calls < 511; calls += 2) {
            y.append(0x64617973, 0x20313b20, BLANK, BLANK, BLANK);
            Checks.due("call " + (calls + 2) + ", parse", 0, y.parse(20));
        }
    }

    // ---- promise 2

    private static void placesOfBytes() {
        for (int at = 0; at < 20; at++) {
            int[] words = {BLANK, BLANK, BLANK, BLANK, BLANK};
            int shift = 24 - 8 * (at % 4);
            words[at / 4] = BLANK & ~(0xff << shift) | 0x80 << shift;
            OrchestraSeason x = new OrchestraSeason();
            x.append(words[0], words[1], words[2], words[3], words[4]);
            Checks.due("byte " + at + " wrong, parse(20)", 1, x.parse(20));
            Checks.due("byte " + at + " wrong, errorPosition()", at, x.errorPosition());
        }
        OrchestraSeason y = new OrchestraSeason();
        y.append(0x64617973, 0x20333b68, 0x616c6c20, 0x61626364, 0x20393b0a);
        Checks.due("\"days 3;hall abcd 9;\\n\", parse(20)", 0, y.parse(20));
        Checks.due("turn(0)", 9, y.turn(0));
        Checks.due("abcd", 0, Texts.find(y, 0, "abcd"));
        Checks.due("append(-1, ..)", 20, y.append(-1, LEAST, MOST, 0, 1));
        Checks.due("append(0, ..)", 40, y.append(0, 0, 0, 0, 0));
        Checks.due("bytes 255", 1, y.parse(40));
        Checks.due("errorPosition()", 0, y.errorPosition());
    }

    private static void newLengths() {
        OrchestraSeason x = new OrchestraSeason();
        for (int i = 1; i <= 30; i++) {
            Checks.due("append no. " + i, 20 * i, x.append(i, i, i, i, i));
        }
    }

    private static void fullBuffer() {
        OrchestraSeason x = new OrchestraSeason();
        Texts.put(x, "days 7;" + " ".repeat(573));
        Checks.due("append to 580 bytes", 600, x.append(BLANK, BLANK, BLANK, BLANK, BLANK));
        for (int i = 0; i < 3; i++) {
            Checks.due("append to 600 bytes", -1, x.append(-1, -1, -1, -1, -1));
        }
        Checks.badArgument("parse(601)", () -> x.parse(601));
        Checks.badArgument("parse(620)", () -> x.parse(620));
        Checks.due("parse(600)", 0, x.parse(600));
        Checks.due("size(0)", 7, x.size(0));
        bufferLength("after parse", x, 0);
        Texts.put(x, "a".repeat(580));
        Checks.due("append to 600 bytes", -1, x.append(0, 0, 0, 0, 0));
        x.find(0);
        bufferLength("after find", x, 0);
    }

    // ---- promise 3

    private static void lengthsOfTexts() {
        OrchestraSeason x = new OrchestraSeason();
        Checks.due("parse(0) of an empty buffer", 1, x.parse(0));
        Checks.due("errorPosition()", 0, x.errorPosition());
        Texts.put(x, "days 3;");
        Checks.due("parse(0) of 20 bytes", 1, x.parse(0));
        Checks.due("errorPosition()", 0, x.errorPosition());
        Texts.put(x, "days 3;");
        Checks.due("parse(1) of 20 bytes", 1, x.parse(1));
        Checks.due("errorPosition()", 0, x.errorPosition());
        Texts.put(x, "days 3;");
        Checks.due("parse(19) of 20 bytes", 0, x.parse(19));
        Texts.put(x, "days 4;");
        Checks.due("parse(20) of 20 bytes", 0, x.parse(20));
        Checks.due("size(0)", 4, x.size(0));
        Texts.put(x, "days 5;" + " ".repeat(593));
        Checks.due("parse(600) of 600 bytes", 0, x.parse(600));
        Checks.due("size(0)", 5, x.size(0));
    }

    private static void lengthsOutOfRange() {
        OrchestraSeason x = new OrchestraSeason();
        Checks.badArgument("parse(1) of an empty buffer", () -> x.parse(1));
        Checks.badArgument("parse(-1) of an empty buffer", () -> x.parse(-1));
        Texts.parse(x, "days 3;hall 5;");
        Texts.put(x, "days 6;");
        for (int length : new int[] {-1, 21, 600, 601, LEAST, MOST}) {
            Checks.badArgument("parse(" + length + ") of 20 bytes", () -> x.parse(length));
            Checks.due("errorPosition() stays", 12, x.errorPosition());
        }
        Checks.due("size(0) stays", 1, x.size(0));
        bufferLength("the buffer stays", x, 20);
        Checks.due("parse(40)", 0, x.parse(40));
        Checks.due("size(0)", 6, x.size(0));
        Checks.badArgument("parse(1) of the emptied buffer", () -> x.parse(1));
    }

    private static void firstBytesAlone() {
        String text = "days 3;hall abcdefghi 1;####";
        int[] codes = {1, 1, 1, 1, 1, 1, 1, 0, 1, 1, 1, 1, 1, 1, 1, 1, 1, 1, 1, 1, 1, 1, 1};
        int[] positions = {0, 0, 0, 0, 4, 5, 6, -1, 7, 7, 7, 11, 12, 13, 14, 15, 16, 17, 18, 19, 20, 12, 12};
        for (int length = 0; length < codes.length; length++) {
            OrchestraSeason x = new OrchestraSeason();
            Texts.put(x, text);
            Checks.due("parse(" + length + ")", codes[length], x.parse(length));
            Checks.due("errorPosition()", positions[length], x.errorPosition());
        }
        OrchestraSeason y = new OrchestraSeason();
        Texts.put(y, "days 2;hall a 1;####");
        Checks.due("wrong bytes behind the text", 0, y.parse(16));
        Checks.due("size(1)", 1, y.size(1));
        Texts.put(y, "days 2;hall a 1;hall b 2;");
        Checks.due("statements behind the text", 0, y.parse(16));
        Checks.due("size(1)", 1, y.size(1));
    }

    private static OrchestraSeason richSeason() {
        OrchestraSeason x = Texts.season(RICH);
        x.rehearse(0, 0, 1);
        x.rehearse(1, 0, 0);
        x.saveSnapshot(1);
        x.concert(0, 3, 3);
        x.setContract(0, 40);
        return x;
    }

    private static void seasonReplaced() {
        OrchestraSeason x = richSeason();
        Checks.due("the shortest text", 0, Texts.parse(x, "days 1;"));
        Checks.dueText("the state", State.of(new OrchestraSeason()), State.of(x));
        for (int kind = 0; kind <= 3; kind++) {
            for (String name : new String[] {"a", "p", "w", "x"}) {
                Checks.due("find " + name + " of kind " + kind, -1, Texts.find(x, kind, name));
            }
        }
        Checks.badState("restoreSnapshot(1)", () -> x.restoreSnapshot(1));
        Checks.due("the text again", 0, Texts.parse(x, RICH));
        Checks.dueText("the state", State.of(Texts.season(RICH)), State.of(x));
        Checks.due("without absence", 0, Texts.parse(x, RICH.replace("absent q 2;", "")));
        Checks.dueTrue("isFree(1, 6)", x.isFree(1, 6));
        Checks.due("without double", 0, Texts.parse(x, RICH.replace("double 8;", "")));
        Checks.due("size(6)", 0, x.size(6));
        Checks.due("with double again", 0, Texts.parse(x, RICH));
        Checks.due("size(6)", 8, x.size(6));
        textsBehindEachOther();
    }

    /** Whatever two texts an object has read before, right or wrong, the third one is read as by a new object. */
    private static void textsBehindEachOther() {
        String[] texts = {RICH, FULL, "days 4;player m 3 3 z;absent m 1;work n 1 2 3 4 z z;", "days 1;",
            "days 9;hall g 3;player m 9 9 q r s t;absent m 8;absent m 0;double 3;work n 9 8 8 9 t s;work",
            "days 2;hall h 4;player y 1 1 z oboe;player n 9 9 z x;absent n 1;work m 1 1 1 1 z oboe;hall h"};
        for (String first : texts) {
            for (String second : texts) {
                for (int third = 0; third < 4; third++) {
                    OrchestraSeason x = new OrchestraSeason();
                    Texts.parse(x, first);
                    Texts.parse(x, second);
                    Checks.due("the third text", 0, Texts.parse(x, texts[third]));
                    Checks.dueText("the state behind \"" + first + "\" and \"" + second + "\"",
                            State.of(Texts.season(texts[third])), State.of(x));
                }
            }
        }
    }

    private static void errorChangesNothing() {
        String untouched = State.withUndo(richSeason());
        String[] texts = {"", "days 5;hall a 1;player z 9 9 i;work z 0 0 4 9 i;double 77;absent z 0;#", "days 2;hall a",
            "days 5;hall c 1;hall c", "days 31;", "days 5;absent z 0;", "days 1;hall c 1;hall d 1;hall e 1;hall f 1;",
            "days 5;player z 9 9 z;player y 9 9 z;player x 9 9 i;absent x 4;work v 9 9 9 9 z;"};
        int[] codes = {1, 1, 1, 2, 3, 4, 5, 3};
        for (int i = 0; i < texts.length; i++) {
            OrchestraSeason x = richSeason();
            Checks.due("\"" + texts[i] + "\"", codes[i], Texts.parse(x, texts[i]));
            bufferLength("the buffer is empty", x, 0);
            Checks.due("find p", 0, findOnly(x, 1, "p"));
            Checks.due("find q", 1, findOnly(x, 1, "q"));
            Checks.due("find y", 1, findOnly(x, 3, "y"));
            Checks.due("find z", -1, findOnly(x, 1, "z"));
            Checks.dueText("the state", untouched, State.withUndo(x));
            Checks.dueFalse("the first slot is empty", x.saveSnapshot(0));
            Checks.due("the second slot is not", 2, x.restoreSnapshot(1));
        }
    }

    /** A blank buffer is emptied first. */
    private static int findOnly(OrchestraSeason x, int kind, String name) {
        x.find(0);
        return Texts.find(x, kind, name);
    }

    private static void emptyAfterSuccess() {
        OrchestraSeason x = new OrchestraSeason();
        Texts.put(x, "days 2;hall a 1;" + " ".repeat(100));
        Checks.due("parse(7)", 0, x.parse(7));
        Checks.badArgument("parse(1)", () -> x.parse(1));
        bufferLength("the buffer is empty", x, 0);
    }

    private static void answersOfParse() {
        Texts.wrong("days 2;hall a 1; absent", 1, 23);
        Texts.wrong("days 2;hall a 1;hall a 1;", 2, 21);
        Texts.wrong("days 2;hall a 10;", 3, 14);
        Texts.wrong("days 2;absent a 1;", 4, 14);
        Texts.wrong("days 2;hall a 1;hall b 1;hall c 1;hall d 1;", 5, 34);
        Texts.season("days 2;hall a 1;hall b 1;hall c 1;");
    }

    // ---- promise 4

    private static void lastErrorPosition() {
        OrchestraSeason x = new OrchestraSeason();
        Checks.due("a wrong text", 3, Texts.parse(x, "days 2;hall a 10;"));
        Checks.due("errorPosition()", 14, x.errorPosition());
        Checks.badArgument("parse(-1)", () -> x.parse(-1));
        Checks.due("errorPosition() after an exception", 14, x.errorPosition());
        Checks.due("another wrong text", 3, Texts.parse(x, "days 0;"));
        Checks.due("errorPosition()", 5, x.errorPosition());
        x.find(0);
        Checks.due("errorPosition() after find", 5, x.errorPosition());
        Checks.due("an empty text", 1, x.parse(0));
        Checks.due("errorPosition(), the least one", 0, x.errorPosition());
        Texts.put(x, "days 3;" + " ".repeat(589) + "hall");
        Checks.due("600 bytes that end too early", 1, x.parse(600));
        Checks.due("errorPosition(), the largest one", 600, x.errorPosition());
    }

    private static void noErrorPosition() {
        OrchestraSeason x = new OrchestraSeason();
        Checks.due("errorPosition() without a call of parse", -1, x.errorPosition());
        Checks.badArgument("parse(1)", () -> x.parse(1));
        Checks.due("errorPosition() after an exception alone", -1, x.errorPosition());
        Texts.parse(x, "days 0;");
        Texts.parse(x, "days 1;");
        Checks.due("errorPosition() after a success", -1, x.errorPosition());
        Checks.badArgument("parse(1)", () -> x.parse(1));
        Checks.due("errorPosition() after a success and an exception", -1, x.errorPosition());
    }

    // ---- promise 5

    private static void leastAndMostSizes() {
        OrchestraSeason x = Texts.season("days 1;");
        int[] least = {1, 0, 0, 0, 0, 0, 0, 0};
        for (int what = 0; what < least.length; what++) {
            Checks.due("the least size(" + what + ")", least[what], x.size(what));
        }
        OrchestraSeason y = Texts.season(FULL);
        for (int slot = 0; slot < 20; slot++) {
            y.rehearse(0, 4 * slot, 0);
            Checks.due("size(5)", slot + 1, y.size(5));
            Checks.due("size(7)", Math.min(10, slot + 1), y.size(7));
        }
        int[] most = {30, 3, 8, 5, 8, 20, 999, 10};
        for (int what = 0; what < most.length; what++) {
            Checks.due("the largest size(" + what + ")", most[what], y.size(what));
        }
    }

    private static void sizesOutOfRange() {
        OrchestraSeason x = Texts.season(RICH);
        for (int what : new int[] {-1, 8, LEAST, MOST}) {
            Checks.badArgument("size(" + what + ")", () -> x.size(what));
        }
    }

    // ---- promise 6

    private static void namesInBuffer() {
        OrchestraSeason x = Texts.season("days 1;hall a 0;hall ab 0;hall abcdefgh 0;player z 0 0 zz zzzzzzzz;");
        Checks.due("one letter", 0, Texts.find(x, 0, "a"));
        Checks.due("two letters", 1, Texts.find(x, 0, "ab"));
        Checks.due("eight letters", 2, Texts.find(x, 0, "abcdefgh"));
        Checks.due("seven of eight letters", -1, Texts.find(x, 0, "abcdefg"));
        Checks.due("nine letters", -1, Texts.find(x, 0, "abcdefghi"));
        Checks.due("other letters first", -1, Texts.find(x, 0, "bab"));
        Checks.due("twenty letters", -1, Texts.find(x, 0, "aaaaaaaaaaaaaaaaaaaa"));
        Checks.due("fifteen letters, of which the last are the name", -1, Texts.find(x, 0, "zzzzzzzabcdefgh"));
        Checks.due("the last letter", 0, Texts.find(x, 1, "z"));
        Checks.due("eight last letters", 1, Texts.find(x, 3, "zzzzzzzz"));
        Checks.due("seven last letters", -1, Texts.find(x, 3, "zzzzzzz"));
    }

    private static void spacesBehindNames() {
        OrchestraSeason x = Texts.season("days 1;hall a 0;hall abcdefgh 0;");
        Checks.due("12 spaces", 1, Texts.find(x, 0, "abcdefgh" + " ".repeat(12)));
        Checks.due("19 spaces", 0, Texts.find(x, 0, "a" + " ".repeat(19)));
        Checks.due("599 spaces", 0, Texts.find(x, 0, "a" + " ".repeat(599)));
        Checks.due("592 spaces", 1, Texts.find(x, 0, "abcdefgh" + " ".repeat(592)));
        Texts.season("days 1;hall abcdefgh 0;");
    }

    private static void anythingElseInBuffer() {
        OrchestraSeason x = Texts.season("days 1;hall a 0;hall b 0;");
        String[] others = {" a", "a b", "a\n", "\na", "a;", "a 1", "1", "A", "`", "{", "a\0", "\0", ";", "ab", "ba", "aa",
            "a" + " ".repeat(598) + "a", " ".repeat(599) + "a", "a\t", "\u00e1", "a" + " ".repeat(18) + "\n"};
        for (String other : others) {
            Checks.due("\"" + other + "\"", -1, Texts.find(x, 0, other));
        }
        for (int kind = 0; kind <= 3; kind++) {
            Checks.due("spaces alone", -1, Texts.find(x, kind, "  "));
            Checks.due("an empty buffer", -1, x.find(kind));
        }
    }

    private static void emptyAfterFind() {
        OrchestraSeason x = Texts.season("days 1;hall a 0;");
        Checks.due("a name that is found", 0, Texts.find(x, 0, "a"));
        bufferLength("afterwards", x, 0);
        Checks.due("a name behind spaces", -1, Texts.find(x, 0, "a"));
        bufferLength("afterwards", x, 0);
        Checks.badArgument("parse(21)", () -> x.parse(21));
    }

    private static void keptByRefusedFind() {
        OrchestraSeason x = Texts.season("days 1;hall a 0;");
        Texts.put(x, "a");
        Checks.badArgument("find(4)", () -> x.find(4));
        Checks.badArgument("find(-1)", () -> x.find(-1));
        bufferLength("after the exceptions", x, 20);
        Checks.due("find(0)", 0, x.find(0));
    }

    private static void kindsAreApart() {
        OrchestraSeason x = Texts.season("days 1;hall h 0;hall n 0;player p 0 0 i;player n 0 0 j;player q 0 0 n;"
                + "work w 0 0 0 0 i;work v 0 0 0 0 i;work u 0 0 0 0 i;work n 0 0 0 0 i;");
        int[] numbers = {1, 1, 3, 2};
        String[] names = {"h", "p", "w", "i"};
        for (int kind = 0; kind <= 3; kind++) {
            Checks.due("n of kind " + kind, numbers[kind], Texts.find(x, kind, "n"));
            for (int other = 0; other <= 3; other++) {
                Checks.due(names[other] + " of kind " + kind, other == kind ? 0 : -1, Texts.find(x, kind, names[other]));
            }
        }
    }

    private static void firstAndLastNames() {
        OrchestraSeason x = Texts.season(FULL);
        String[] first = {"a", "p", "a", "i"};
        String[] last = {"c", "w", "e", "p"};
        String[] none = {"d", "x", "f", "q"};
        int[] most = {2, 7, 4, 7};
        for (int kind = 0; kind <= 3; kind++) {
            Checks.due("the first of kind " + kind, 0, Texts.find(x, kind, first[kind]));
            Checks.due("the last of kind " + kind, most[kind], Texts.find(x, kind, last[kind]));
            Checks.due("none of kind " + kind, -1, Texts.find(x, kind, none[kind]));
        }
    }

    private static void kindsOutOfRange() {
        OrchestraSeason x = Texts.season(RICH);
        Texts.put(x, "p");
        for (int kind : new int[] {-1, 4, LEAST, MOST}) {
            Checks.badArgument("find(" + kind + ")", () -> x.find(kind));
        }
    }
}
