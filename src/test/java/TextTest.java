/** Promises 1 to 6: a new object, the input buffer, texts and their errors, counts and names. */
final class TextTest {
    private TextTest() {
    }

    static void run() {
        promise1NewObject();
        promise2Append();
        promise3ParseReplaces();
        promise3ParseLength();
        promise3WholeSeason();
        promise3OneObjectManyTexts();
        promise3FullBuffer();
        tokens();
        grammar();
        doubleNames();
        ranges();
        unknownNames();
        tooMany();
        smallestCodeAtOnePosition();
        smallestPosition();
        promise4ErrorPosition();
        promise5Size();
        promise6Find();
    }

    private static void promise1NewObject() {
        OrchestraSeason x = new OrchestraSeason();
        int[] sizes = {1, 0, 0, 0, 0, 0, 0, 0};
        for (int what = 0; what < sizes.length; what++) {
            Checks.due("new, size(" + what + ")", sizes[what], x.size(what));
        }
        Checks.due("new, costs(3)", 0, x.costs(3));
        Checks.due("new, undo()", -1, x.undo());
        Checks.due("new, errorPosition()", -1, x.errorPosition());
        Checks.badArgument("new, parse(1) of an empty buffer", () -> x.parse(1));
        Checks.badState("new, restoreSnapshot(0)", () -> x.restoreSnapshot(0));
        Checks.outOfBounds("new, turn(0)", () -> x.turn(0));
        Checks.outOfBounds("new, work(0, 0)", () -> x.work(0, 0));
        Checks.outOfBounds("new, service(0, 0)", () -> x.service(0, 0));
        OrchestraSeason y = new OrchestraSeason();
        Texts.parse(y, "days 2;hall a 1;");
        Checks.due("objects are apart, size(1)", 0, x.size(1));
    }

    private static void promise2Append() {
        OrchestraSeason x = new OrchestraSeason();
        for (int i = 1; i <= 30; i++) {
            Checks.due("append no. " + i, 20L * i, x.append(0x20202020, 0x20202020, 0, -1, 1));
        }
        Checks.due("append no. 31", -1, x.append(1, 2, 3, 4, 5));
        Checks.badArgument("parse(601)", () -> x.parse(601));
        Checks.due("parse(600)", 1, x.parse(600));
        Checks.due("the third argument's first byte is wrong, errorPosition()", 8, x.errorPosition());
        Checks.due("append to the emptied buffer", 20, x.append(0, 0, 0, 0, 0));
        x.parse(0);
        Checks.due("append", 20, x.append(0x64617973, 0x20373b20, 0x20202020, 0x20202020, 0x20202020));
        Checks.due("parse of \"days 7; \", the most significant byte first", 0, x.parse(8));
        Checks.due("size(0)", 7, x.size(0));
        x.append(0x20202020, 0x20202020, 0x20202020, 0x20202020, 0x80202020);
        Checks.due("byte 128", 1, x.parse(20));
        Checks.due("byte 128, errorPosition()", 16, x.errorPosition());
        x.append(0x20202020, 0x20202020, 0x20202020, 0x20202020, 0x202020ff);
        Checks.due("byte 255", 1, x.parse(20));
        Checks.due("byte 255, errorPosition()", 19, x.errorPosition());
    }

    private static void promise3ParseReplaces() {
        OrchestraSeason x = Texts.season("days 5;hall a 1;player p 3 4 oboe;work w 0 0 4 9 oboe;double 8;");
        x.rehearse(0, 0, 0);
        x.setContract(0, 9);
        x.saveSnapshot(0);
        x.saveSnapshot(1);
        Checks.due("a wrong text", 1, Texts.parse(x, "days 3;hall b 2;hall"));
        Checks.due("after it, size(0)", 5, x.size(0));
        Checks.due("after it, size(5)", 1, x.size(5));
        Checks.due("after it, size(6)", 8, x.size(6));
        Checks.due("after it, size(7)", 2, x.size(7));
        Checks.due("after it, turn(0)", 1, x.turn(0));
        Checks.due("after it, player(0, 0)", 9, x.player(0, 0));
        Checks.due("after it, find \"a\"", 0, Texts.find(x, 0, "a"));
        Checks.dueTrue("after it, saveSnapshot(0)", x.saveSnapshot(0));
        Checks.badArgument("after it the buffer is empty", () -> x.parse(1));
        Checks.due("a right text", 0, Texts.parse(x, "days 2;player q 1 2 flute;"));
        Checks.due("after it, size(0)", 2, x.size(0));
        Checks.due("after it, size(1)", 0, x.size(1));
        Checks.due("after it, size(3)", 0, x.size(3));
        Checks.due("after it, size(4)", 1, x.size(4));
        Checks.due("after it, size(5)", 0, x.size(5));
        Checks.due("after it, size(6)", 0, x.size(6));
        Checks.due("after it, size(7)", 0, x.size(7));
        Checks.due("after it, undo()", -1, x.undo());
        Checks.due("after it, player(0, 0)", 1, x.player(0, 0));
        Checks.due("after it, find \"oboe\"", -1, Texts.find(x, 3, "oboe"));
        Checks.badState("after it, restoreSnapshot(0)", () -> x.restoreSnapshot(0));
        Checks.badState("after it, restoreSnapshot(1)", () -> x.restoreSnapshot(1));
        Checks.dueFalse("after it, saveSnapshot(1)", x.saveSnapshot(1));
        Checks.badArgument("after it the buffer is empty", () -> x.parse(1));
        Checks.due("the first object again", 0, Texts.parse(x, "days 2;player q 1 2 a;absent q 1;"));
        Checks.due("and again, without what it told", 0, Texts.parse(x, "days 2;player q 1 2 a;absent q 1;"));
        Checks.due("and a third time", 0, Texts.parse(x, "days 2;player q 1 2 a;"));
        Checks.dueTrue("the absence is gone", x.isFree(0, 3));
    }

    private static void promise3ParseLength() {
        OrchestraSeason x = new OrchestraSeason();
        Texts.put(x, "days 3;hall a 1;");
        Checks.badArgument("parse(-1)", () -> x.parse(-1));
        Checks.badArgument("parse(21)", () -> x.parse(21));
        Checks.badArgument("parse(least int)", () -> x.parse(Integer.MIN_VALUE));
        Checks.due("the buffer stays after an exception: parse(7)", 0, x.parse(7));
        Checks.due("only the first bytes count: size(1)", 0, x.size(1));
        Checks.due("size(0)", 3, x.size(0));
        Texts.put(x, "days 3;");
        Checks.due("parse(0)", 1, x.parse(0));
        Checks.due("parse(0), errorPosition()", 0, x.errorPosition());
        Checks.due("the rest of the buffer is gone: append", 20, x.append(0, 0, 0, 0, 0));
    }

    private static void promise3WholeSeason() {
        OrchestraSeason x = Texts.season("\n days\n30;player p40 999 viola oboe ;player q 0 0 oboe horn; hall days 9;"
                + "work hall 9 0 29 999 horn viola horn;absent p 29;absent q 0;hall hall 000;double 7 ;"
                + "work p 0 007 7 0 oboe;absent p 0;\n\n ");
        int[] sizes = {30, 2, 2, 2, 3, 0, 7, 0};
        for (int what = 0; what < sizes.length; what++) {
            Checks.due("whole season, size(" + what + ")", sizes[what], x.size(what));
        }
        Checks.due("turn(0)", 9, x.turn(0));
        Checks.due("turn(1)", 0, x.turn(1));
        Checks.due("player(0, 0)", 40, x.player(0, 0));
        Checks.due("player(0, 1)", 999, x.player(0, 1));
        Checks.due("player(1, 2)", 1, x.player(1, 2));
        Checks.due("player(1, 3)", 6, x.player(1, 3));
        Checks.due("work(0, 0)", 9, x.work(0, 0));
        Checks.due("work(1, 1)", 7, x.work(1, 1));
        Checks.due("seat(0, 2)", 2, x.seat(0, 2));
        Checks.dueFalse("isFree(0, 89)", x.isFree(0, 89));
        Checks.dueFalse("isFree(0, 2)", x.isFree(0, 2));
        Checks.dueTrue("isFree(0, 3)", x.isFree(0, 3));
        Checks.dueTrue("isFree(1, 89)", x.isFree(1, 89));
    }

    private static void promise3OneObjectManyTexts() {
        OrchestraSeason x = new OrchestraSeason();
        String full = "days 30;hall a 1;player p 1 1 c d e f;player q 1 1 g h i j;work w 1 2 3 4 c d e f g h;"
                + "work v 0 0 0 0 c;double 9;absent p 29;";
        int[] fullSizes = {30, 1, 2, 2, 8, 0, 9, 0};
        int[] smallSizes = {2, 0, 1, 1, 1, 0, 0, 0};
        for (int i = 0; i < 3; i++) {
            Checks.due("the full text, time " + i, 0, Texts.parse(x, full));
            for (int what = 0; what < 8; what++) {
                Checks.due("full, size(" + what + ")", fullSizes[what], x.size(what));
            }
            Checks.due("full, player(0, 3)", 15, x.player(0, 3));
            Checks.due("full, work(0, 4)", 6, x.work(0, 4));
            Checks.due("full, work(1, 4)", 1, x.work(1, 4));
            Checks.due("the small text, time " + i, 0, Texts.parse(x, "days 2;player r 1 1 j;work u 0 0 0 0 j j;"));
            for (int what = 0; what < 8; what++) {
                Checks.due("small, size(" + what + ")", smallSizes[what], x.size(what));
            }
            Checks.due("small, player(0, 3)", 1, x.player(0, 3));
            Checks.due("small, work(0, 4)", 2, x.work(0, 4));
            Checks.due("small, hall a", -1, Texts.find(x, 0, "a"));
            Checks.due("small, instrument c", -1, Texts.find(x, 3, "c"));
        }
    }

    private static void promise3FullBuffer() {
        String blanks = " ".repeat(600);
        Texts.season(("days 3;" + blanks).substring(0, 599) + "\n");
        Texts.season(("days 3" + blanks).substring(0, 599) + ";");
        Texts.wrong(("days 3;" + blanks).substring(0, 596) + "hall", 1, 600);
        Texts.wrong(("days 3;" + blanks).substring(0, 597) + "hal", 1, 597);
        Texts.wrong(("days 3;hall a" + blanks).substring(0, 599) + "1", 1, 600);
        Texts.wrong(("days 3;hall a" + blanks).substring(0, 598) + "12", 3, 598);
        Texts.wrong("a".repeat(600), 1, 0);
        Texts.wrong("days " + "0".repeat(595), 1, 5);
        Texts.wrong("days 3" + ";".repeat(594), 1, 7);
        Texts.wrong("days 3;player p 1 1" + " a".repeat(290), 2, 22);
        Texts.wrong("days 3;player p 1 1 a;work w 0 0 0 0" + " a".repeat(280), 5, 49);
    }

    private static void tokens() {
        Texts.wrong("", 1, 0);
        Texts.wrong("  \n", 1, 3);
        Texts.wrong("days 1;hall abcdefghi 1;", 1, 12);
        Texts.season("days 1;hall abcdefgh 1;");
        Texts.wrong("days 1;hall a 0001;", 1, 14);
        Texts.season("days 001;hall a 009;");
        Texts.wrong("days 1;hall A 1;", 1, 12);
        Texts.wrong("days 1;hall ab_ 1;", 1, 14);
        Texts.wrong("days 1;\t", 1, 7);
        Texts.wrong("days 1;\r\n", 1, 7);
        Texts.wrong("days 1:", 1, 6);
        Texts.wrong("days -1;", 1, 5);
        Texts.season("days1;hall a1;player b1 2c d;absent b0;");
        Texts.wrong("days 1;halls a 1;", 1, 7);
        Texts.wrong("abcdefghijklmnopqrstuvwxyzabcdefghijdays 1;", 1, 0);
        Texts.wrong("days 1;hall a `1;", 1, 14);
        Texts.wrong("days 1;hall a {1;", 1, 14);
        Texts.wrong("days 1;hall a /1;", 1, 14);
        Texts.wrong("days 1;hall 1;", 1, 12);
    }

    private static void grammar() {
        Texts.wrong("day 1;", 1, 0);
        Texts.wrong("hall a 1;", 1, 0);
        Texts.wrong("days", 1, 4);
        Texts.wrong("days  ", 1, 6);
        Texts.wrong("days x;", 1, 5);
        Texts.wrong("days 1", 1, 6);
        Texts.wrong("days 1 2;", 1, 7);
        Texts.wrong("days 1;;", 1, 7);
        Texts.wrong("days 1;3;", 1, 7);
        Texts.wrong("days 1;days 1;", 1, 7);
        Texts.wrong("days 1;hall", 1, 11);
        Texts.wrong("days 1;hall;", 1, 11);
        Texts.wrong("days 1;hall a;", 1, 13);
        Texts.wrong("days 1;hall a b;", 1, 14);
        Texts.wrong("days 1;hall a 1", 1, 15);
        Texts.wrong("days 1;hall a 1 1;", 1, 16);
        Texts.wrong("days 1;player p 1 1;", 1, 19);
        Texts.wrong("days 1;player p 1 1 a 2;", 1, 22);
        Texts.wrong("days 1;player p 1 1 a", 1, 21);
        Texts.wrong("days 1;player p 1 a;", 1, 18);
        Texts.wrong("days 1;player p a;", 1, 16);
        Texts.wrong("days 1;player 7 1 1 a;", 1, 14);
        Texts.wrong("days 1;player p 1 1 a;absent 0;", 1, 29);
        Texts.wrong("days 1;player p 1 1 a;absent p;", 1, 30);
        Texts.wrong("days 1;player p 1 1 a;absent p p;", 1, 31);
        Texts.wrong("days 1;player p 1 1 a;work w 0 0 0 a;", 1, 35);
        Texts.wrong("days 1;player p 1 1 a;work w 0 0 0 0;", 1, 36);
        Texts.wrong("days 1;player p 1 1 a;work w 0 0 0 0 a 1;", 1, 39);
        Texts.wrong("days 1;player p 1 1 a;work w 0 0 0 0", 1, 36);
        Texts.wrong("days 1;double;", 1, 13);
        Texts.wrong("days 1;double a;", 1, 14);
        Texts.wrong("days 1;double 1 1;", 1, 16);
    }

    private static void doubleNames() {
        Texts.wrong("days 1;hall a 1;hall a 1;", 2, 21);
        Texts.wrong("days 1;player a 1 1 x;player a 1 1 x;", 2, 29);
        Texts.wrong("days 1;player a 1 1 x;work a 0 0 0 0 x;work a 0 0 0 0 x;", 2, 44);
        Texts.season("days 1;hall a 1;player a 1 1 a;work a 0 0 0 0 a;");
        Texts.wrong("days 1;player a 1 1 x y x;", 2, 24);
        Texts.wrong("days 1;player a 1 1 x x;", 2, 22);
        Texts.season("days 1;player a 1 1 x;player b 1 1 x;");
        Texts.wrong("days 2;player a 1 1 x;absent a 1;absent a 0;absent a 1;", 2, 53);
        Texts.season("days 2;player a 1 1 x;player b 1 1 x;absent a 1;absent a 0;absent b 1;");
        Texts.wrong("days 2;double 0;double 5;", 2, 16);
    }

    private static void ranges() {
        Texts.wrong("days 0;", 3, 5);
        Texts.wrong("days 31;", 3, 5);
        Texts.season("days 30;");
        Texts.wrong("days 1;hall a 10;", 3, 14);
        Texts.wrong("days 1;player p 41 1 a;", 3, 16);
        Texts.season("days 1;player p 40 999 a;");
        Texts.season("days 1;player p 0 0 a;double 999;");
        Texts.wrong("days 1;player p 1 1 a;work w 10 0 0 0 a;", 3, 29);
        Texts.wrong("days 3;player p 1 1 a;work w 0 3 2 0 a;", 3, 31);
        Texts.wrong("days 3;player p 1 1 a;work w 0 2 1 0 a;", 3, 33);
        Texts.wrong("days 3;player p 1 1 a;work w 0 2 3 0 a;", 3, 33);
        Texts.season("days 3;player p 1 1 a;work w 9 2 2 999 a;");
        Texts.wrong("days 3;player p 1 1 a;absent p 3;", 3, 31);
        Texts.season("days 3;player p 1 1 a;absent p 2;");
    }

    private static void unknownNames() {
        Texts.wrong("days 1;absent p 0;", 4, 14);
        Texts.wrong("days 1;absent p 0;player p 1 1 a;", 4, 14);
        Texts.wrong("days 1;player q 1 1 p;absent p 0;", 4, 29);
        Texts.wrong("days 1;player p 1 1 a;work w 0 0 0 0 a p;", 4, 39);
        Texts.wrong("days 1;work w 0 0 0 0 a;player p 1 1 a;", 4, 22);
    }

    private static void tooMany() {
        Texts.wrong("days 1;hall a 1;hall b 1;hall c 1;hall d 1;", 5, 34);
        Texts.wrong("days 1;hall a 1;hall b 1;hall c 1;hall", 5, 34);
        String eight = "days 1;player a 1 1 x;player b 1 1 x;player c 1 1 x;player d 1 1 x;"
                + "player e 1 1 x;player f 1 1 x;player g 1 1 x;player h 1 1 x;";
        Texts.season(eight);
        Texts.wrong(eight + "player i 1 1 x;", 5, eight.length());
        String five = "days 1;player p 1 1 x;work a 0 0 0 0 x;work b 0 0 0 0 x;work c 0 0 0 0 x;"
                + "work d 0 0 0 0 x;work e 0 0 0 0 x;";
        Texts.season(five);
        Texts.wrong(five + "work a 0 0 0 0 x;", 5, five.length());
        Texts.wrong("days 1;player p 1 1 a b c d e;", 5, 28);
        String instruments = "days 1;player p 1 1 a b c d;player q 1 1 e f g h;player r 1 1 h";
        Texts.season(instruments + " a;");
        Texts.wrong(instruments + " i;", 5, instruments.length() + 1);
        Texts.season("days 1;player p 1 1 a;work w 0 0 0 0 a a a a a a;");
        Texts.wrong("days 1;player p 1 1 a;work w 0 0 0 0 a a a a a a a;", 5, 49);
    }

    private static void smallestCodeAtOnePosition() {
        Texts.wrong("days 1;player p 1 1 a b c d a;", 2, 28);
        Texts.wrong("days 1;player p 1 1 a;work w 0 0 0 0 a a a a a a b;", 4, 49);
        Texts.wrong("days 1;player p 1 1 a b c d 5;", 1, 28);
        Texts.wrong("days 1;player p 1 1 a b c d abcdefghi;", 1, 28);
        Texts.wrong("days 1;hall a 1;hall b 1;hall c 1;halls", 1, 34);
        Texts.wrong("days 1;hall a 1;hall b 1;hall c 1;halla 1;", 1, 34);
    }

    private static void smallestPosition() {
        Texts.wrong("days 0;#", 3, 5);
        Texts.wrong("days 99 99;", 3, 5);
        Texts.wrong("days 1;hall a 1;hall a 99 99", 2, 21);
        Texts.wrong("days 1;hall a 99", 3, 14);
        Texts.wrong("days 1;player p 99 99", 3, 16);
    }

    private static void promise4ErrorPosition() {
        OrchestraSeason x = new OrchestraSeason();
        Texts.parse(x, "days 0;");
        Checks.due("errorPosition()", 5, x.errorPosition());
        Checks.badArgument("parse(9)", () -> x.parse(9));
        Checks.due("errorPosition() after an exception", 5, x.errorPosition());
        Checks.due("errorPosition() twice", 5, x.errorPosition());
        Texts.parse(x, "days 1;");
        Checks.due("errorPosition() after a success", -1, x.errorPosition());
        Texts.parse(x, "days 1; ;");
        Checks.due("errorPosition()", 8, x.errorPosition());
    }

    private static void promise5Size() {
        OrchestraSeason x = Texts.season("days 4;hall a 1;hall b 2;player p 1 1 c;player q 1 1 d e;player r 1 1 c;"
                + "work w 0 0 3 1 e;double 12;");
        int[] sizes = {4, 2, 3, 1, 3, 0, 12, 0};
        for (int what = 0; what < sizes.length; what++) {
            Checks.due("size(" + what + ")", sizes[what], x.size(what));
        }
        x.rehearse(0, 0, 0);
        x.rehearse(0, 4, 0);
        x.recast(0);
        Checks.due("size(5)", 2, x.size(5));
        Checks.due("size(7)", 3, x.size(7));
        Checks.badArgument("size(8)", () -> x.size(8));
        Checks.badArgument("size(-1)", () -> x.size(-1));
        Checks.badArgument("size(largest int)", () -> x.size(Integer.MAX_VALUE));
    }

    private static void promise6Find() {
        OrchestraSeason x = Texts.season("days 4;hall a 1;hall b 2;player p 1 1 c;player q 1 1 d abcdefgh a;"
                + "work v 0 0 0 0 c;work a 0 0 3 1 d;");
        Checks.due("hall a", 0, Texts.find(x, 0, "a"));
        Checks.due("hall b", 1, Texts.find(x, 0, "b"));
        Checks.due("hall p", -1, Texts.find(x, 0, "p"));
        Checks.due("player q", 1, Texts.find(x, 1, "q"));
        Checks.due("player a", -1, Texts.find(x, 1, "a"));
        Checks.due("work a", 1, Texts.find(x, 2, "a"));
        Checks.due("instrument a", 3, Texts.find(x, 3, "a"));
        Checks.due("instrument of eight letters", 2, Texts.find(x, 3, "abcdefgh"));
        Checks.due("its first seven letters", -1, Texts.find(x, 3, "abcdefg"));
        Checks.due("a ninth letter", -1, Texts.find(x, 3, "abcdefgha"));
        Checks.due("eight letters behind others", -1, Texts.find(x, 3, "dabcdefghabcdefgh"));
        Checks.due("many spaces behind it", 0, Texts.find(x, 0, "a" + " ".repeat(599)));
        Checks.due("a space before it", -1, Texts.find(x, 0, " a"));
        Checks.due("a line feed behind it", -1, Texts.find(x, 0, "a\n"));
        Checks.due("a letter behind the space", -1, Texts.find(x, 0, "a b"));
        Checks.due("a semicolon behind it", -1, Texts.find(x, 0, "a;"));
        Checks.due("a capital", -1, Texts.find(x, 0, "A"));
        Checks.due("a sign below a", -1, Texts.find(x, 0, "`a"));
        Checks.due("spaces alone", -1, Texts.find(x, 0, "   "));
        Checks.due("an empty buffer", -1, x.find(0));
        Texts.put(x, "b");
        Checks.badArgument("find(4)", () -> x.find(4));
        Checks.badArgument("find(-1)", () -> x.find(-1));
        Checks.due("the buffer stays after an exception: find(0)", 1, x.find(0));
        Checks.due("the buffer is empty afterwards: append", 20, x.append(0, 0, 0, 0, 0));
        Checks.due("the buffer with byte 0", -1, x.find(0));
        Checks.due("the buffer is empty afterwards: append", 20, x.append(0, 0, 0, 0, 0));
    }
}
