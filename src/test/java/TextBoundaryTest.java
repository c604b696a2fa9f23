/** Promise 3, the sentences on texts and their errors that name a boundary case. */
final class TextBoundaryTest {
    private static final String EIGHT_PLAYERS = "player a 0 0 x;player b 0 0 x;player c 0 0 x;player d 0 0 x;"
            + "player e 0 0 x;player f 0 0 x;player g 0 0 x;player h 0 0 x;";
    private static final String FIVE_WORKS = "work a 0 0 0 0 x;work b 0 0 0 0 x;work c 0 0 0 0 x;work d 0 0 0 0 x;"
            + "work e 0 0 0 0 x;";
    private static final int NO_LIST = 100;
    private static final String P = "days 1;player p 0 0 x;";

    private TextBoundaryTest() {
    }

    static void run() {
        tokens();
        grammar();
        limits();
        ranges();
        errors();
        places();
    }

    private static void tokens() {
        test("A season is described by a text of at most 600 bytes.", TextBoundaryTest::longestText);
        test("Spaces (byte 32) and line feeds (byte 10) separate tokens and are otherwise ignored.",
                TextBoundaryTest::blanks);
        test("A token is a word (a maximal run of letters a to z, 1 to 8 letters)", TextBoundaryTest::words);
        test("a number (a maximal run of digits, 1 to 3 digits)", TextBoundaryTest::numbers);
        test("or a semicolon.", TextBoundaryTest::semicolons);
        test("A longer run", TextBoundaryTest::longerRuns);
        test("and any other byte, is an invalid token.", TextBoundaryTest::otherBytes);
    }

    private static void grammar() {
        test("season    = \"days\" count \";\" { statement \";\" }", TextBoundaryTest::wholeText);
        test("statement = \"hall\" name turn | \"player\" name contract fee instrument { instrument } | \"absent\" "
                + "player day", TextBoundaryTest::hallsPlayersAbsences);
        test("| \"work\" name need first last fee instrument { instrument } | \"double\" fee",
                TextBoundaryTest::worksAndDouble);
        test("name is any word", TextBoundaryTest::namesAreAnyWords);
        test("player is a word that is the name of an earlier player", TextBoundaryTest::earlierPlayers);
        test("an instrument of a player is any word", TextBoundaryTest::instrumentsAreAnyWords);
        test("there can be several seats of one instrument", TextBoundaryTest::severalSeats);
        test("a word that is an instrument of an earlier player.", TextBoundaryTest::earlierInstruments);
        test("Instruments are numbered in the order in which they are told first.",
                TextBoundaryTest::orderOfInstruments);
        test("The first instrument of a player is the main one.", TextBoundaryTest::mainInstruments);
    }

    private static void limits() {
        test("Limits: 3 halls", TextBoundaryTest::threeHalls);
        test("8 players", TextBoundaryTest::eightPlayers);
        test("5 works", TextBoundaryTest::fiveWorks);
        test("8 instruments", TextBoundaryTest::eightInstruments);
        test("4 instruments of a player", TextBoundaryTest::fourInstruments);
        test("6 seats of a work", TextBoundaryTest::sixSeats);
        test("double can occur once.", TextBoundaryTest::oneDouble);
    }

    private static void ranges() {
        test("Ranges: count 1 to 30", TextBoundaryTest::counts);
        test("turn and need 0 to 9", TextBoundaryTest::turnsAndNeeds);
        test("contract 0 to 40", TextBoundaryTest::contracts);
        test("fee 0 to 999", TextBoundaryTest::fees);
        test("(double 0 without the statement)", TextBoundaryTest::withoutDouble);
        test("day and first 0 to count minus 1", TextBoundaryTest::days);
        test("last first to count minus 1.", TextBoundaryTest::lastDays);
    }

    private static void errors() {
        test("1: an invalid token", TextBoundaryTest::invalidTokens);
        test("a token that the grammar does not allow at this place", TextBoundaryTest::wrongTokens);
        test("or a text that ends too early.", TextBoundaryTest::tooEarlyEnds);
        test("2: a name that an earlier one of the same sort (hall, player, work) has",
                TextBoundaryTest::namesTwice);
        test("an instrument that the player has already", TextBoundaryTest::instrumentsTwice);
        test("a day on which the player is absent already", TextBoundaryTest::absentTwice);
        test("the word of a second double.", TextBoundaryTest::wordOfSecondDouble);
        test("3: a number out of its range.", TextBoundaryTest::numbersOutOfRange);
        test("4: a player that is no earlier one", TextBoundaryTest::noEarlierPlayer);
        test("an instrument of a work that no earlier player has.", TextBoundaryTest::noEarlierInstrument);
        test("5: the word of a hall, player or work too many", TextBoundaryTest::wordsTooMany);
        test("a ninth instrument", TextBoundaryTest::ninthInstrument);
        test("the fifth instrument of a player", TextBoundaryTest::fifthInstrument);
        test("the seventh seat of a work.", TextBoundaryTest::seventhSeat);
    }

    private static void places() {
        test("The error with the smallest position is reported.", TextBoundaryTest::smallestPosition);
        test("If several codes apply at one position, the smallest is reported.", TextBoundaryTest::smallestCode);
        test("The position of an error is the index of the first byte of its token",
                TextBoundaryTest::firstByteOfToken);
        test("if the text ends too early, it is the length of the text.", TextBoundaryTest::lengthOfText);
    }

    private static void test(String words, Runnable test) {
        Sentences.test(3, words, test);
    }

    private static void wrong(String text, int code, int position) {
        Texts.wrong(text, code, position);
    }

    private static void right(String text) {
        Texts.season(text);
    }

    // ---- tokens

    private static void longestText() {
        String blanks = " ".repeat(600);
        right(("days 3" + blanks).substring(0, 599) + ";");
        wrong(("days 3" + blanks).substring(0, 598) + "7;", 1, 598);
        wrong(("days 3;" + blanks).substring(0, 599) + ";", 1, 599);
        right("\n".repeat(593) + "days 3;");
        OrchestraSeason x = Texts.season(("days 3;hall h" + blanks).substring(0, 598) + "9;");
        Checks.due("turn(0)", 9, x.turn(0));
    }

    private static void blanks() {
        right(" days 1;");
        right("\ndays 1;");
        right("days\n1\n;\n");
        right(" \n \n days  \n 1 \n;  hall\n\n\na \n1\n; \n");
        right("days 1;hall a 1;player p 1 1 x y;absent p 0;work w 0 0 0 0 x;double 1;".replace(" ", "\n"));
        right("days 1;hall a 1;player p 1 1 x y;absent p 0;work w 0 0 0 0 x;double 1;".replace(" ", "  "));
        right("days1;hall a1;player p1 1x y;absent p0;work w0 0 0 0x;double1;");
        wrong("da ys 1;", 1, 0);
        wrong("days 1 0;", 1, 7);
        wrong("days 1;hall a b 1;", 1, 14);
        wrong("days 1;hall a\nb 1;", 1, 14);
        OrchestraSeason x = Texts.season("days 2\n;hall ab 1;player p 1 0x y;");
        Checks.due("size(0)", 2, x.size(0));
        Checks.due("size(4)", 2, x.size(4));
    }

    private static void words() {
        right("days 1;hall a 1;hall abcdefgh 1;hall z 1;player zzzzzzzz 1 1 a abcdefgh z;");
        right("days 1;hall ijklmnop 1;hall qrstuvwx 1;hall yz 1;");
        wrong("days 1;hall abcdefghi 1;", 1, 12);
        for (int sign = 0; sign < 256; sign++) {
            if (sign >= 'a' && sign <= 'z') {
                right("days 1;hall " + (char) sign + " 1;");
                right("days 1;hall a" + (char) sign + "a 1;");
            } else {
                wrong("days 1;hall " + (char) sign + " 1;", 1, sign == ' ' || sign == '\n' ? 14 : 12);
            }
        }
        OrchestraSeason x = Texts.season("days 1;hall abcdefgh 1;hall abcdefg 2;hall bcdefgh 3;");
        Checks.due("names differ in one letter, abcdefg", 1, Texts.find(x, 0, "abcdefg"));
        Checks.due("names differ in one letter, bcdefgh", 2, Texts.find(x, 0, "bcdefgh"));
        right("days 1;player p 0 0 aaaaaaaa aaaaaaab baaaaaaa aaaaaaa;");
    }

    private static void numbers() {
        for (String number : new String[] {"9", "09", "009"}) {
            Checks.due("turn(0)", 9, Texts.season("days 1;hall a " + number + ";").turn(0));
        }
        Checks.due("size(6)", 999, Texts.season("days 1;double 999;").size(6));
        Checks.due("size(6)", 10, Texts.season("days 1;double 010;").size(6));
        for (int digit = 0; digit <= 9; digit++) {
            Checks.due("turn(0)", digit, Texts.season("days 1;hall a " + digit + ";").turn(0));
            Checks.due("size(6)", 111 * digit, Texts.season("days 1;double " + 111 * digit + ";").size(6));
        }
        for (int sign = 0; sign < 256; sign++) {
            if (sign < '0' || sign > '9') {
                wrong("days 1;hall a " + (char) sign + ";", 1, sign == ' ' || sign == '\n' ? 15 : 14);
            }
        }
    }

    private static void semicolons() {
        right("days 1;");
        right("days 1 ;");
        right("days 1;double 1\n;\n");
        wrong("days 1;;", 1, 7);
        wrong("days 1; ;", 1, 8);
        wrong(";days 1;", 1, 0);
        wrong("days; 1;", 1, 4);
        wrong("days 1:double 1;", 1, 6);
        wrong("days 1<", 1, 6);
    }

    private static void longerRuns() {
        wrong("days 1;hall abcdefghi 1;", 1, 12);
        wrong("days 1;hall a 0001;", 1, 14);
        wrong("days 0001;", 1, 5);
        wrong("days 1;player p 1 0000 x;", 1, 18);
        wrong("daysdaysd 1;", 1, 0);
        wrong("days 1;hallhallh a 1;", 1, 7);
        wrong("days " + "1".repeat(595), 1, 5);
        wrong("days 4294967297;", 1, 5);
        wrong("z".repeat(600), 1, 0);
        wrong("days 1;hall " + "a".repeat(64) + " 1;", 1, 12);
        wrong("days 1;hall aaaaaaaa 1;hall " + "a".repeat(72) + " 1;", 1, 28);
    }

    private static void otherBytes() {
        for (int sign = 0; sign < 256; sign++) {
            boolean isLetter = sign >= 'a' && sign <= 'z';
            boolean isDigit = sign >= '0' && sign <= '9';
            if (!isLetter && !isDigit && sign != ' ' && sign != '\n' && sign != ';') {
                wrong("days 1;" + (char) sign, 1, 7);
                wrong("days 1" + (char) sign + ";", 1, 6);
                wrong("days 1;hall a" + (char) sign + " 1;", 1, 13);
            }
        }
        wrong("days 1;hall ab_c 1;", 1, 14);
        wrong("days 1;\r\nhall a 1;", 1, 7);
        wrong("days 1;\thall a 1;", 1, 7);
        wrong("days 1;hall a -1;", 1, 14);
        wrong("Days 1;", 1, 0);
    }

    // ---- grammar

    private static void wholeText() {
        wrong("hall a 1;", 1, 0);
        wrong("day 1;", 1, 0);
        wrong("dayss 1;", 1, 0);
        otherTokens("", "days 1 ;", NO_LIST);
        right("days 1;");
        wrong("days 1;days 1;", 1, 7);
        right("days 1;double 1;");
        right("days 1;double 1;hall a 1;");
        wrong("days 1;double 1", 1, 15);
        wrong("days 1;double 1 hall a 1;", 1, 16);
        wrong("days 1;double 1;hall a 1", 1, 24);
        wrong("days 1;stage a 1;", 1, 7);
        wrong("days 1;hal a 1;", 1, 7);
        wrong("days 1;halls a 1;", 1, 7);
    }

    /**
     * Every other sort of token at every place of a statement. Behind the first word of a list, which stands at a
     * place that is told, both another word and a semicolon are right.
     */
    private static void otherTokens(String before, String statement, int list) {
        right(before + statement);
        String[] tokens = statement.split(" ");
        String head = before;
        for (int at = 0; at < tokens.length; at++) {
            for (String other : new String[] {"hall", "1", ";", "#"}) {
                boolean isInList = at > list && (sort(other) == 'a' || sort(other) == ';');
                if (sort(other) != sort(tokens[at]) && !isInList) {
                    wrong(head + other + " ;", 1, head.length());
                }
            }
            head += tokens[at] + " ";
        }
    }

    /** The sort of a token: that of its first sign. */
    private static char sort(String token) {
        char first = token.charAt(0);
        return first >= 'a' && first <= 'z' ? 'a' : first >= '0' && first <= '9' ? '0' : first;
    }

    private static void hallsPlayersAbsences() {
        otherTokens("days 2;", "hall a 1 ;", NO_LIST);
        otherTokens("days 2;", "player p 1 1 x ;", 4);
        otherTokens("days 2;player q 1 1 x;", "player p 1 1 x y z ;", 4);
        otherTokens("days 2;player p 1 1 x;", "absent p 1 ;", NO_LIST);
        wrong("days 2;player p 1 1;", 1, 19);
        wrong("days 2;player p 1 x;", 1, 18);
        wrong("days 2;player p 1 1 x 1;", 1, 22);
        wrong("days 2;hall a 1 1;", 1, 16);
        wrong("days 2;player p 1 1 x;absent p 1 1;", 1, 33);
    }

    private static void worksAndDouble() {
        String before = "days 2;player p 1 1 x y;";
        otherTokens(before, "work w 1 0 1 1 x ;", 6);
        otherTokens(before, "work w 1 0 1 1 x y x ;", 6);
        otherTokens(before, "double 1 ;", NO_LIST);
        wrong(before + "work w 1 0 1 1;", 1, before.length() + 14);
        wrong(before + "work w 1 0 1 x;", 1, before.length() + 13);
        wrong(before + "work w 1 0 1 1 x 1;", 1, before.length() + 17);
        wrong(before + "double 1 1;", 1, before.length() + 9);
    }

    private static void namesAreAnyWords() {
        OrchestraSeason x = Texts.season("days 1;hall days 1;hall hall 2;player player 1 1 player work;"
                + "work work 0 0 0 0 work;absent player 0;work absent 0 0 0 0 player;player double 0 0 double;double 1;"
                + "hall double 3;work days 0 0 0 0 double;");
        Checks.due("hall double", 2, Texts.find(x, 0, "double"));
        Checks.due("player double", 1, Texts.find(x, 1, "double"));
        Checks.due("work absent", 1, Texts.find(x, 2, "absent"));
        Checks.due("instrument work", 1, Texts.find(x, 3, "work"));
        right("days 1;hall a 1;player a 1 1 a;work a 0 0 0 0 a;");
    }

    private static void earlierPlayers() {
        right("days 1;player p 0 0 x;player q 0 0 x;player r 0 0 x;absent p 0;absent r 0;absent q 0;");
        wrong("days 1;player p 0 0 x;absent q 0;player q 0 0 x;", 4, 29);
        wrong("days 1;absent p 0;player p 0 0 x;", 4, 14);
        wrong("days 1;hall h 0;player p 0 0 x;work w 0 0 0 0 x;absent h 0;", 4, 55);
        wrong("days 1;hall h 0;player p 0 0 x;work w 0 0 0 0 x;absent w 0;", 4, 55);
        wrong("days 1;hall h 0;player p 0 0 x;work w 0 0 0 0 x;absent x 0;", 4, 55);
        OrchestraSeason x = Texts.season("days 1;player p 0 0 x;player q 0 0 x;absent q 0;");
        Checks.dueTrue("isFree(0, 0)", x.isFree(0, 0));
        Checks.dueFalse("isFree(1, 0)", x.isFree(1, 0));
    }

    private static void instrumentsAreAnyWords() {
        right("days 1;hall h 0;player p 0 0 p h days hall;player q 0 0 q p;");
        wrong("days 1;player p 0 0 3;", 1, 20);
        wrong("days 1;player p 0 0 x 3;", 1, 22);
        wrong("days 1;player p 0 0 abcdefghi;", 1, 20);
    }

    private static void severalSeats() {
        OrchestraSeason x = Texts.season("days 1;player p 0 0 x y;work w 0 0 0 0 y y x y y y;");
        int[] due = {1, 1, 0, 1, 1, 1};
        for (int seat = 0; seat < due.length; seat++) {
            Checks.due("seat(0, " + seat + ")", due[seat], x.seat(0, seat));
        }
    }

    private static void earlierInstruments() {
        right("days 1;player p 0 0 a b;player q 0 0 c d e f;work w 0 0 0 0 f a c b;");
        wrong("days 1;player p 0 0 a;work w 0 0 0 0 b;player q 0 0 b;", 4, 37);
        wrong("days 1;work w 0 0 0 0 a;player p 0 0 a;", 4, 22);
        wrong("days 1;player p 0 0 a;work w 0 0 0 0 a a p;", 4, 41);
        wrong("days 1;player p 0 0 a;work w 0 0 0 0 w;", 4, 37);
    }

    private static void orderOfInstruments() {
        OrchestraSeason x = Texts.season("days 1;player p 0 0 c a;player q 0 0 b a d;work w 0 0 0 0 a d b c;");
        int[] due = {1, 3, 2, 0};
        for (int seat = 0; seat < due.length; seat++) {
            Checks.due("seat(0, " + seat + ")", due[seat], x.seat(0, seat));
        }
        Checks.due("player(0, 3)", 1 + 2, x.player(0, 3));
        Checks.due("player(1, 3)", 2 + 4 + 8, x.player(1, 3));
        Checks.due("size(4)", 4, x.size(4));
        Checks.due("d", 3, Texts.find(x, 3, "d"));
    }

    private static void mainInstruments() {
        OrchestraSeason x = Texts.season("days 1;player p 0 0 c a;player q 0 0 b a d;player r 0 0 a c b d;"
                + "player s 0 0 d;");
        int[] due = {0, 2, 1, 3};
        for (int player = 0; player < due.length; player++) {
            Checks.due("player(" + player + ", 2)", due[player], x.player(player, 2));
        }
    }

    // ---- limits

    private static void threeHalls() {
        String three = "days 1;hall a 0;hall b 0;hall c 0;";
        Checks.due("size(1)", 3, Texts.season(three).size(1));
        wrong(three + "hall d 0;", 5, three.length());
        right(three + P.substring(7) + "work w 0 0 0 0 x;");
    }

    private static void eightPlayers() {
        Checks.due("size(2)", 8, Texts.season("days 1;" + EIGHT_PLAYERS).size(2));
        wrong("days 1;" + EIGHT_PLAYERS + "player i 0 0 x;", 5, 7 + EIGHT_PLAYERS.length());
        right("days 1;" + EIGHT_PLAYERS + "hall a 0;work w 0 0 0 0 x;");
    }

    private static void fiveWorks() {
        Checks.due("size(3)", 5, Texts.season(P + FIVE_WORKS).size(3));
        wrong(P + FIVE_WORKS + "work f 0 0 0 0 x;", 5, P.length() + FIVE_WORKS.length());
        right(P + FIVE_WORKS + "hall a 0;player q 0 0 x;");
    }

    private static void eightInstruments() {
        String eight = "days 1;player p 0 0 a b c d;player q 0 0 e f g;player r 0 0 a h";
        Checks.due("size(4)", 8, Texts.season(eight + ";").size(4));
        wrong(eight + " i;", 5, eight.length() + 1);
        right(eight + " b;player s 0 0 h g f e;player t 0 0 d;");
        wrong(eight + ";player s 0 0 i;", 5, eight.length() + 14);
    }

    private static void fourInstruments() {
        Checks.due("player(0, 3)", 15, Texts.season("days 1;player p 0 0 a b c d;").player(0, 3));
        wrong("days 1;player p 0 0 a b c d e;", 5, 28);
        wrong("days 1;player q 0 0 e;player p 0 0 a b c d e;", 5, 43);
        right("days 1;player p 0 0 a b c d;player q 0 0 e f g h;");
    }

    private static void sixSeats() {
        Checks.due("work(0, 4)", 6, Texts.season(P + "work w 0 0 0 0 x x x x x x;").work(0, 4));
        wrong(P + "work w 0 0 0 0 x x x x x x x;", 5, P.length() + 27);
        right(P + "work w 0 0 0 0 x x x x x x;work v 0 0 0 0 x x x x x x;");
    }

    private static void oneDouble() {
        Checks.due("size(6)", 5, Texts.season("days 1;hall a 0;double 5;hall b 0;").size(6));
        wrong("days 1;double 5;double 5;", 2, 16);
        wrong("days 1;double 0;hall a 0;double 0;", 2, 25);
        OrchestraSeason x = Texts.season("days 1;double 5;");
        Checks.due("once in the next text, too", 0, Texts.parse(x, "days 1;double 6;"));
        Checks.due("size(6)", 6, x.size(6));
    }

    // ---- ranges

    private static void counts() {
        wrong("days 0;", 3, 5);
        Checks.due("size(0)", 1, Texts.season("days 1;").size(0));
        Checks.due("size(0)", 30, Texts.season("days 30;").size(0));
        wrong("days 31;", 3, 5);
        wrong("days 000;", 3, 5);
        wrong("days 999;", 3, 5);
    }

    private static void turnsAndNeeds() {
        Checks.due("turn(0)", 0, Texts.season("days 1;hall a 0;").turn(0));
        Checks.due("turn(0)", 9, Texts.season("days 1;hall a 9;").turn(0));
        wrong("days 1;hall a 10;", 3, 14);
        wrong("days 1;hall a 999;", 3, 14);
        Checks.due("work(0, 0)", 0, Texts.season(P + "work w 0 0 0 1 x;").work(0, 0));
        Checks.due("work(0, 0)", 9, Texts.season(P + "work w 9 0 0 1 x;").work(0, 0));
        wrong(P + "work w 10 0 0 1 x;", 3, P.length() + 7);
    }

    private static void contracts() {
        Checks.due("player(0, 0)", 0, Texts.season("days 1;player p 0 7 x;").player(0, 0));
        Checks.due("player(0, 0)", 40, Texts.season("days 1;player p 40 7 x;").player(0, 0));
        wrong("days 1;player p 41 7 x;", 3, 16);
        wrong("days 1;player p 999 7 x;", 3, 16);
    }

    private static void fees() {
        Checks.due("player(0, 1)", 0, Texts.season("days 1;player p 7 0 x;").player(0, 1));
        Checks.due("player(0, 1)", 999, Texts.season("days 1;player p 7 999 x;").player(0, 1));
        Checks.due("work(0, 3)", 0, Texts.season(P + "work w 1 0 0 0 x;").work(0, 3));
        Checks.due("work(0, 3)", 999, Texts.season(P + "work w 1 0 0 999 x;").work(0, 3));
        Checks.due("size(6)", 0, Texts.season("days 1;double 0;").size(6));
        Checks.due("size(6)", 999, Texts.season("days 1;double 999;").size(6));
        wrong("days 1;player p 7 1000 x;", 1, 18);
        wrong(P + "work w 1 0 0 1000 x;", 1, P.length() + 13);
        wrong("days 1;double 1000;", 1, 14);
    }

    private static void withoutDouble() {
        OrchestraSeason x = Texts.season("days 1;");
        Checks.due("size(6)", 0, x.size(6));
        Texts.parse(x, "days 1;double 7;");
        Texts.parse(x, "days 1;");
        Checks.due("size(6) after a text with it", 0, x.size(6));
    }

    private static void days() {
        OrchestraSeason x = Texts.season("days 30;player p 0 0 x;absent p 29;absent p 0;work w 0 29 29 0 x;"
                + "work v 0 0 29 0 x;");
        Checks.dueFalse("isFree(0, 0)", x.isFree(0, 0));
        Checks.dueTrue("isFree(0, 3)", x.isFree(0, 3));
        Checks.dueTrue("isFree(0, 86)", x.isFree(0, 86));
        Checks.dueFalse("isFree(0, 87)", x.isFree(0, 87));
        Checks.due("work(0, 1)", 29, x.work(0, 1));
        Checks.due("work(1, 1)", 0, x.work(1, 1));
        wrong("days 30;player p 0 0 x;absent p 30;", 3, 32);
        wrong("days 30;player p 0 0 x;work w 0 30 29 0 x;", 3, 32);
        wrong(P + "absent p 1;", 3, P.length() + 9);
        wrong(P + "work w 0 1 1 0 x;", 3, P.length() + 9);
        right(P + "absent p 0;work w 0 0 0 0 x;");
        wrong("days 7;player p 0 0 x;absent p 7;", 3, 31);
        wrong("days 7;player p 0 0 x;work w 0 7 7 0 x;", 3, 31);
    }

    private static void lastDays() {
        String before = "days 7;player p 0 0 x;";
        Checks.due("work(0, 2)", 3, Texts.season(before + "work w 0 3 3 0 x;").work(0, 2));
        Checks.due("work(0, 2)", 6, Texts.season(before + "work w 0 3 6 0 x;").work(0, 2));
        Checks.due("work(0, 2)", 6, Texts.season(before + "work w 0 6 6 0 x;").work(0, 2));
        Checks.due("work(0, 2)", 0, Texts.season(before + "work w 0 0 0 0 x;").work(0, 2));
        wrong(before + "work w 0 3 2 0 x;", 3, before.length() + 11);
        wrong(before + "work w 0 3 7 0 x;", 3, before.length() + 11);
        wrong(before + "work w 0 6 0 0 x;", 3, before.length() + 11);
        wrong(before + "work w 0 6 7 0 x;", 3, before.length() + 11);
    }

    // ---- errors

    private static void invalidTokens() {
        wrong("#", 1, 0);
        wrong("days #;", 1, 5);
        wrong("days 1#", 1, 6);
        wrong("days 1;hall #", 1, 12);
        wrong("days 1;hall a #;", 1, 14);
        wrong("days 1;hall a 1#;", 1, 15);
        wrong("days 1;hall a 1;#", 1, 16);
        wrong(P + "absent #", 1, P.length() + 7);
        wrong(P + "absent p 0000;", 1, P.length() + 9);
        wrong(P + "work abcdefghi", 1, P.length() + 5);
        wrong(P + "work w 0 0 0 0 x abcdefghi;", 1, P.length() + 17);
        wrong("days 1;player p 0 0 x X;", 1, 22);
    }

    private static void wrongTokens() {
        wrong("1 days;", 1, 0);
        wrong("days days;", 1, 5);
        wrong("days 1 1;", 1, 7);
        wrong("days 1;1;", 1, 7);
        wrong("days 1;a;", 1, 7);
        wrong("days 1;hall 1 a;", 1, 12);
        wrong(P + "absent 0 p;", 1, P.length() + 7);
        wrong(P + "absent p p;", 1, P.length() + 9);
        wrong(P + "work w x;", 1, P.length() + 7);
        wrong(P + "work w 0 x;", 1, P.length() + 9);
        wrong(P + "work w 0 0 x;", 1, P.length() + 11);
        wrong(P + "work w 0 0 0 x;", 1, P.length() + 13);
        wrong(P + "work w 0 0 0 0 0;", 1, P.length() + 15);
        wrong("days 1;player p x;", 1, 16);
        wrong("days 1;player p 1 x;", 1, 18);
        wrong("days 1;double x;", 1, 14);
    }

    /** A text cut off behind each of its tokens ends too early, but for the semicolons. */
    private static void tooEarlyEnds() {
        String text = "days 2 ; hall a 1 ; player p 1 1 x y ; absent p 1 ; work w 1 0 1 1 x y ; double 1 ;";
        String head = "";
        wrong(head, 1, 0);
        wrong(" \n ", 1, 3);
        for (String token : text.split(" ")) {
            head += token;
            if (token.equals(";")) {
                right(head);
                right(head + " ");
            } else {
                wrong(head, 1, head.length());
                wrong(head + " ", 1, head.length() + 1);
            }
            head += " ";
        }
    }

    private static void namesTwice() {
        wrong("days 1;hall a 0;hall a 0;", 2, 21);
        wrong("days 1;hall a 0;hall b 0;hall a 0;", 2, 30);
        wrong("days 1;hall a 0;hall b 0;hall b 0;", 2, 30);
        wrong(P + "player p 0 0 x;", 2, P.length() + 7);
        wrong(P + "player q 0 0 x;player q 0 0 x;", 2, P.length() + 22);
        wrong(P + "work w 0 0 0 0 x;work w 0 0 0 0 x;", 2, P.length() + 22);
        wrong(P + "work w 0 0 0 0 x;work v 0 0 0 0 x;work w 0 0 0 0 x;", 2, P.length() + 39);
        right("days 1;hall p 0;player p 0 0 p;work p 0 0 0 0 p;");
        right("days 1;hall a 0;hall ab 0;hall b 0;");
    }

    private static void instrumentsTwice() {
        wrong("days 1;player p 0 0 x x;", 2, 22);
        wrong("days 1;player p 0 0 x y z x;", 2, 26);
        wrong("days 1;player p 0 0 x y z z;", 2, 26);
        right("days 1;player p 0 0 x y;player q 0 0 y x;");
        right("days 1;player p 0 0 x xx y yx;");
    }

    private static void absentTwice() {
        String before = "days 30;player p 0 0 x;player q 0 0 x;absent p 0;absent q 29;";
        wrong(before + "absent p 0;", 2, before.length() + 9);
        wrong(before + "absent q 29;", 2, before.length() + 9);
        wrong(before + "absent p 1;absent p 2;absent p 1;", 2, before.length() + 31);
        right(before + "absent p 29;absent q 0;");
        wrong(before + "absent p 000;", 2, before.length() + 9);
    }

    private static void wordOfSecondDouble() {
        wrong("days 1;double 1;double", 2, 16);
        wrong("days 1;double 1; double 2;", 2, 17);
        wrong("days 1;double 0;double;", 2, 16);
        wrong("days 1;double;double 1;", 1, 13);
    }

    private static void numbersOutOfRange() {
        wrong("days 31", 3, 5);
        wrong("days 1;hall a 10", 3, 14);
        wrong("days 1;player p 41", 3, 16);
        wrong(P + "absent p 1", 3, P.length() + 9);
        wrong(P + "work w 10", 3, P.length() + 7);
        wrong(P + "work w 0 1", 3, P.length() + 9);
        wrong(P + "work w 0 0 1", 3, P.length() + 11);
    }

    private static void noEarlierPlayer() {
        wrong("days 1;absent p 0;", 4, 14);
        wrong(P + "absent q 0;", 4, P.length() + 7);
        wrong(P + "absent x", 4, P.length() + 7);
        wrong(P + "absent pp", 4, P.length() + 7);
        wrong(P + "absent q 0;player q 0 0 x;", 4, P.length() + 7);
        right(P + "absent p 0;player q 0 0 x;");
    }

    private static void noEarlierInstrument() {
        wrong("days 1;work w 0 0 0 0 x;", 4, 22);
        wrong(P + "work w 0 0 0 0 y;", 4, P.length() + 15);
        wrong(P + "work w 0 0 0 0 x y;", 4, P.length() + 17);
        wrong(P + "work w 0 0 0 0 x y;player q 0 0 y;", 4, P.length() + 17);
        wrong(P + "work w 0 0 0 0 p", 4, P.length() + 15);
        right(P + "player q 0 0 y;work w 0 0 0 0 x y;");
    }

    private static void wordsTooMany() {
        String three = "days 1;hall a 0;hall b 0;hall c 0; ";
        wrong(three + "hall", 5, three.length());
        wrong(three + "hall a 0;", 5, three.length());
        wrong(three + "hall 0;", 5, three.length());
        String eight = "days 1;" + EIGHT_PLAYERS;
        wrong(eight + "player", 5, eight.length());
        wrong(eight + "player a 0 0 x;", 5, eight.length());
        wrong(eight + "player 0;", 5, eight.length());
        String five = P + FIVE_WORKS;
        wrong(five + "work", 5, five.length());
        wrong(five + "work a 0 0 0 0 x;", 5, five.length());
        wrong(five + "work 0;", 5, five.length());
    }

    private static void ninthInstrument() {
        String eight = "days 1;player p 0 0 a b c d;player q 0 0 e f g h;player r 0 0 ";
        wrong(eight + "i;", 5, eight.length());
        wrong(eight + "a b c i;", 5, eight.length() + 6);
        wrong(eight + "i", 5, eight.length());
        right(eight + "h a e d;");
    }

    private static void fifthInstrument() {
        wrong("days 1;player p 0 0 a b c d e;", 5, 28);
        wrong("days 1;player p 0 0 a b c d e", 5, 28);
        String eight = "days 1;player p 0 0 a b c d;player q 0 0 e f g h;player r 0 0 a b c d ";
        wrong(eight + "e;", 5, eight.length());
        wrong(eight + "i;", 5, eight.length());
    }

    private static void seventhSeat() {
        wrong(P + "work w 0 0 0 0 x x x x x x x;", 5, P.length() + 27);
        wrong(P + "work w 0 0 0 0 x x x x x x x", 5, P.length() + 27);
        String two = P + "work w 0 0 0 0 x;work v 0 0 0 0 x x x x x x ";
        wrong(two + "x;", 5, two.length());
    }

    // ---- places

    private static void smallestPosition() {
        wrong("days 1;hall a 10;#", 3, 14);
        wrong("days 1;hall a 1#;hall a 1;", 1, 15);
        wrong("days 0;absent p 0;", 3, 5);
        wrong("days 1;absent p 9;", 4, 14);
        wrong("days 1;hall a 0;hall a 10;", 2, 21);
        wrong("days 1;player p 41 x", 3, 16);
        wrong(P + "work w 10 1 0 0 y", 3, P.length() + 7);
        wrong(P + "work w 0 1 0 0 y", 3, P.length() + 9);
        wrong(P + "work w 0 0 1 0 y", 3, P.length() + 11);
        wrong("days 1;hall a 0;hall b 0;hall c 0;hall a 10 #", 5, 34);
        wrong("days 1;double 0;double 1000", 2, 16);
    }

    private static void smallestCode() {
        wrong("days 1;player p 0 0 a b c d d;", 2, 28);
        wrong("days 1;player p 0 0 a b c d a;", 2, 28);
        wrong("days 1;player p 0 0 a b c d 1;", 1, 28);
        wrong("days 1;player p 0 0 a b c d abcdefghi;", 1, 28);
        String eight = "days 1;player p 0 0 a b c d;player q 0 0 e f g h;player r 0 0 ";
        wrong(eight + "abcdefghi;", 1, eight.length());
        wrong(eight + "h h;", 2, eight.length() + 2);
        wrong(P + "work w 0 0 0 0 x x x x x x y;", 4, P.length() + 27);
        wrong(P + "work w 0 0 0 0 x x x x x x 1;", 1, P.length() + 27);
        wrong(P + "work w 0 0 0 0 x x x x x x abcdefghi;", 1, P.length() + 27);
        wrong("days 1;hall a 0;hall b 0;hall c 0;hallhallh", 1, 34);
        wrong("days 9999;", 1, 5);
        wrong(P + "absent ppppppppp 0;", 1, P.length() + 7);
    }

    private static void firstByteOfToken() {
        wrong("   day 1;", 1, 3);
        wrong("days \n 31;", 3, 7);
        wrong("days 1;   hall a 1;hall\n\na 1;", 2, 25);
        wrong("days 1;hall a 000099;", 1, 14);
        wrong("days 1;player pp 0 0 xx xx;", 2, 24);
        wrong(P + "absent  qqq 0;", 4, P.length() + 8);
        wrong("days 1;hall a 0;hall b 0;hall c 0;  hall d 0;", 5, 36);
        wrong("#days 1;", 1, 0);
        wrong("days 1;" + " ".repeat(592) + "#", 1, 599);
    }

    private static void lengthOfText() {
        wrong("", 1, 0);
        wrong(" ", 1, 1);
        wrong("days", 1, 4);
        wrong("days\n\n", 1, 6);
        wrong("days 1", 1, 6);
        wrong("days 1;hall a 1    ", 1, 19);
        wrong("days 1;hall a" + " ".repeat(587), 1, 600);
        wrong(" ".repeat(600), 1, 600);
        OrchestraSeason x = new OrchestraSeason();
        Texts.put(x, "days 1;hall a 1;");
        Checks.due("a text shorter than the buffer", 1, x.parse(13));
        Checks.due("errorPosition()", 13, x.errorPosition());
    }
}
