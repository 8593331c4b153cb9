/** 'Terms' 1 (LAND, TEXT, FAULTS) and promises 2 to 5, sentence by sentence, at the edges that they name. */
public final class TextBoundsTest {
    private static final String[] LANGUAGE = {"place", "cause", "road", "doubt", "by", "wait", "sees", "inn", "from",
        "to"};
    private static final String TEN = "place a b c d e f g h i j;";

    public static void main(String[] args) {
        signsAlone();
        signsInALine();
        wordsOfTheLanguage();
        lengthsOfWords();
        whatCanStandWhere();
        whereTheTextEnds();
        blanks();
        numbers();
        tenPlaces();
        twoCauses();
        allRoads();
        sixDoubtful();
        sightsAndWords();
        toldAlready();
        notToldAhead();
        theFirstFault();
        theTape();
        theFullTape();
        theBytesOfALand();
        latestFault();
        factsOfRoads();
        Check.end("TextBoundsTest");
    }

    /** A text of bytes, each as a sign 0 .. 255. */
    private static void one(int sign, String before, String after, int lines, int faultAt) {
        String text = before + (char) sign + after;
        if (lines >= 0) {
            Check.fine(text, lines);
        } else {
            Check.fault(text, 1, faultAt);
        }
    }

    private static boolean isLetter(int sign) {
        return sign >= 97 && sign <= 122;
    }

    /** Of the 256 bytes only 10 and 32 are nothing; no other can begin a line, alone. */
    private static void signsAlone() {
        for (int sign = 0; sign < 256; sign++) {
            one(sign, "", "", sign == 10 || sign == 32 ? 0 : -1, 0);
        }
    }

    /** Between two letters of a place: a letter joins them, a blank parts them, ';' ends the line, all else is a fault. */
    private static void signsInALine() {
        for (int sign = 0; sign < 256; sign++) {
            String text = "place s" + (char) sign + "t;";
            if (isLetter(sign) || sign == 10 || sign == 32) {
                Check.due("places", Check.fine(text, 1).count(0), isLetter(sign) ? 1 : 2);
            } else {
                // behind ';' the t can't begin a line
                Check.fault(text, 1, sign == ';' ? 8 : 7);
            }
        }
        for (int sign = 0; sign < 256; sign++) {
            // in a number: a digit goes on, a letter would be a token that can't stand there
            String text = "place s t;road s t 1" + (char) sign + "1;";
            if (sign >= '0' && sign <= '9') {
                int hours = 100 + 10 * (sign - '0') + 1;
                Check.fault(text, 2, 19);
                Check.due("it is too great", hours > 99, true);
            } else {
                // the 1 that follows stands where no number can
                Check.fault(text, 1, sign == 10 || sign == 32 || sign == ';' ? 21 : 20);
            }
        }
    }

    private static void wordsOfTheLanguage() {
        for (String word : LANGUAGE) {
            Check.fault("place " + word + ";", 1, 6);
            Check.fault("place s\n" + word + ";", 1, 8);
            Check.fault("cause " + word + " 1;", 1, 6);
            Check.fault("place s t;road " + word + " t 1;", 1, 15);
            Check.fault("place s t;road s " + word + " 1;", 1, 17);
            Check.fault("place s t;road s t 1 by " + word + ";", 1, 24);
            Check.fault("place s;from " + word + ";", 1, 13);
            Check.fault("place s;to " + word + ";", 1, 11);
            String less = word.substring(0, word.length() - 1);
            Check.due(less + " is a name", Check.fine("place " + less + ";", 1).count(0), 1);
            Check.due(word + "x is a name", Check.fine("place " + word + "x;", 1).count(0), 1);
            Check.due("x" + word + " is a name", Check.fine("place x" + word + ";", 1).count(0), 1);
            Check.fault(less + " s;", 1, 0);
            Check.fault(word + "x s;", 1, 0);
        }
        Check.fault("Place s;", 1, 0);
        Check.fault("PLACE s;", 1, 0);
        Check.fault("doubt 5;", 1, 0);
        Check.fault("by r;", 1, 0);
        Check.fault("wait 5;", 1, 0);
    }

    private static void lengthsOfWords() {
        String letters = "z";
        for (int length = 1; length <= 6; length++) {
            ShutPasses x = Check.fine("cause " + letters + " 5;place s " + letters + ";road s " + letters + " 3 by "
                    + letters + ";sees s " + letters + " s;inn s s " + letters + " 9;from " + letters + ";to " + letters
                    + ";", 7);
            Check.due("from", x.count(5), 1);
            Check.due("to", x.count(6), 1);
            letters += "z";
        }
        for (int length = 7; length <= 40; length++) {
            Check.fault("place " + letters + ";", 1, 6);
            Check.fault("place s " + letters + ";", 1, 8);
            Check.fault("cause " + letters + " 1;", 1, 6);
            Check.fault(letters, 1, 0);
            Check.fault("place s t;road s t 1 " + letters + ";", 1, 21);
            Check.fault("place s;from " + letters + ";", 1, 13);
            letters += "z";
        }
        Check.due("as long as each other", Check.fine("place a aa aaa aaaa aaaaa aaaaaa;", 1).count(0), 6);
        Check.due("other at the sixth letter", Check.fine("place abcdef abcdeg bbcdef;", 1).count(0), 3);
        Check.due("other order", Check.fine("place ab ba b;", 1).count(0), 3);
        Check.fault("place abcdef abcdef;", 3, 13);
        Check.fault("place zzzzzz;from zzzzz;", 4, 18);
    }

    /** A line of each kind, its tokens one by one, and for each which can stand there: the first letters of the
     * language's words (P C R D B W S I F T), w a name, n a number, ; and E the end. */
    private static final String[][] LINES = {
        {"place", "PCRSIFTE", "s", "w", "t", "w;", "u", "w;", ";", "w;"},
        {"cause", "PCRSIFTE", "r", "w", "1", "n", ";", ";"},
        {"road", "PCRSIFTE", "s", "w", "t", "w", "1", "n", ";", "DB;"},
        {"road", "PCRSIFTE", "t", "w", "u", "w", "2", "n", "doubt", "DB;", "3", "n", "by", "BW;", "r", "w", "wait", "W;",
            "4", "n", ";", ";"},
        {"road", "PCRSIFTE", "u", "w", "s", "w", "2", "n", "by", "DB;", "r", "w", "wait", "W;", "4", "n", ";", ";"},
        {"sees", "PCRSIFTE", "s", "w", "t", "w", "u", "w", ";", ";"},
        {"inn", "PCRSIFTE", "s", "w", "t", "w", "u", "w", "5", "n", ";", ";"},
        {"from", "PCRSIFTE", "s", "w", ";", ";"},
        {"to", "PCRSIFTE", "u", "w", ";", ";"},
        {"place", "PCRSIFTE", "v", "w", ";", "w;"},
    };
    private static final String[] STANDINS = {"place", "cause", "road", "doubt", "by", "wait", "sees", "inn", "from", "to",
        "s", "7", ";", ":", "abcdefg"};
    private static final String KINDS = "PCRDBWSIFTwn;??";

    /** 'can't stand there': at each token each other one, against the grammar; 'E': the text ends there. */
    private static void whatCanStandWhere() {
        StringBuilder before = new StringBuilder();
        for (String[] line : LINES) {
            for (int at = 0; at < line.length; at += 2) {
                for (int i = 0; i < STANDINS.length; i++) {
                    StringBuilder text = new StringBuilder(before).append(STANDINS[i]);
                    for (int more = at + 2; more < line.length; more += 2) {
                        text.append(' ').append(line[more]);
                    }
                    boolean may = line[at + 1].indexOf(KINDS.charAt(i)) >= 0;
                    ShutPasses x = new ShutPasses();
                    Check.about = text.toString();
                    Check.land(x, text.toString());
                    boolean refused = x.fault(0) == 1 && x.fault(1) == before.length();
                    Check.due(STANDINS[i] + " may stand at " + before.length(), !refused, may);
                }
                before.append(line[at]).append(at % 4 == 0 ? " " : "\n");
            }
        }
        Check.due("whole it is a land", Check.fine(before.toString(), LINES.length).count(0), 4);
    }

    /** The text ends behind each of these tokens, at once or with blanks: the length, if more must come. */
    private static void whereTheTextEnds() {
        StringBuilder text = new StringBuilder();
        int lines = 0;
        for (String[] line : LINES) {
            for (int at = 0; at < line.length; at += 2) {
                text.append(line[at]);
                lines += line[at].equals(";") ? 1 : 0;
                for (String blanks : new String[] {"", " ", "\n \n"}) {
                    if (line[at].equals(";")) {
                        Check.fine(text + blanks, lines);
                    } else {
                        Check.fault(text + blanks, 1, text.length() + blanks.length());
                    }
                }
                text.append(' ');
            }
        }
    }

    private static void blanks() {
        Check.fine("", 0);
        Check.fine(" ", 0);
        Check.fine("\n", 0);
        Check.due("none between a word and a number", Check.fine("cause r3;place s t;road s t7doubt2by r wait9;", 3)
                .count(2), 1);
        Check.due("blanks in plenty", Check.fine("\n\n place \n s\n\nt ; \n\n road  s\nt\n4 doubt\n1 \n;\n ", 2).count(1), 1);
        Check.fault("pla ce s;", 1, 0);
        Check.fault("place s t;road s t 1 0;", 1, 21);
        Check.fault("placesplace;", 1, 0);
    }

    private static void number(String before, String after, int most, int road, int what) {
        String[] refused = {"0", "00", "" + (most + 1), "100", "999", "2147483648", "4294967297", "18446744073709551617",
            "00000000000000000000" + (most + 1), "99999999999999999999999999999999999999999999999999"};
        for (String number : refused) {
            Check.fault(before + number + after, 2, before.length());
        }
        String[] taken = {"1", "" + most, "01", "000000000000000000000000000000000" + most};
        for (int i = 0; i < taken.length; i++) {
            ShutPasses x = new ShutPasses();
            Check.about = before + taken[i] + after;
            Check.due("land", Check.land(x, Check.about) > 0, true);
            if (what >= 0) {
                Check.due("look", x.look(road, what), i % 2 == 0 ? 1 : most);
            }
        }
    }

    /** Each number at its least and greatest and one beyond. */
    private static void numbers() {
        String road = "place s t;cause r 1;road s t ";
        number("cause r ", ";", 9, 0, -1);
        number(road, ";", 99, 0, 2);
        number(road, " doubt 1;", 99, 0, 2);
        number(road + "1 doubt ", ";", 9, 0, 3);
        number(road + "1 doubt ", " by r;", 9, 0, 3);
        number(road + "1 doubt 1 wait ", ";", 99, 0, 5);
        number(road + "1 by r wait ", ";", 99, 0, 5);
        number(road + "1 by r;inn s s t ", ";", 99, 0, -1);
        // odds told by causes and hours by words
        Check.due("nine of ten", Check.landed("place s t;cause r 9;road s t 1 by r;").weight(1), 9);
        Check.due("one of ten", Check.landed("place s t;cause r 1;road s t 1 by r;").weight(1), 1);
        ShutPasses x = Check.landed("place s t u;from s;to t;road s t 1;road t u 1 doubt 5;inn s t u 99;inn s t u 1;");
        x.begin(1);
        Check.due("buy(0)", x.buy(0), 1);
        Check.due("99 hours", x.walk(1), 99);
    }

    private static void tenPlaces() {
        Check.due("ten", Check.fine(TEN, 1).count(0), 10);
        ShutPasses x = Check.fine("place a;place b c;place d e f;place g h i j;from j;to a;road j i 5;", 7);
        Check.due("ten in four lines", x.count(0), 10);
        Check.due("numbered as they come", x.count(5), 9);
        Check.due("numbered as they come", x.count(6), 0);
        Check.due("numbered as they come", x.look(0, 1), 8);
        Check.fault("place a b c d e f g h i j k;", 2, 26);
        Check.fault("place a b c d e f g h i j k", 2, 26);
        Check.fault("place a b c d e f g h i j k l m;", 2, 26);
        Check.fault(TEN + "place k;", 2, 32);
        Check.fault("place a b c d e;place f g h i j k;", 2, 32);
        // of one place the least: told already (3) and too much (2)
        Check.fault("place a b c d e f g h i j j;", 2, 26);
        Check.fault(TEN + "place a;", 2, 32);
        // a token that can't stand there (1) and an eleventh
        Check.fault(TEN + "place by;", 1, 32);
        Check.fault(TEN + "place abcdefg;", 1, 32);
        Check.fault(TEN + "place 1;", 1, 32);
        Check.fault(TEN + "place;", 1, 31);
        Check.fault(TEN + "place", 1, 31);
        Check.fault("place;", 1, 5);
    }

    private static void twoCauses() {
        Check.due("two", Check.fine("cause r 1;cause q 9;", 2).count(3), 2);
        Check.fault("cause r 1;cause q 9;cause p 5;", 2, 20);
        Check.fault("cause r 1;cause q 9;cause r 5;", 2, 20);
        Check.fault("cause r 1;cause q 9;cause 5;", 2, 20);
        Check.fault("cause r 1;cause q 9;cause", 2, 20);
        Check.fault("cause r 1;cause q 9; \ncauses", 1, 22);
        Check.fault("cause r 1 cause q 9;", 1, 10);
        Check.fault("cause r 1 2;", 1, 10);
        ShutPasses x = Check.landed("cause r 1;cause q 9;place s t u;road s t 1 by q;road t u 1 by r;");
        Check.due("numbered as they come", x.look(0, 4), 1);
        Check.due("numbered as they come", x.look(1, 4), 0);
    }

    /** The first so many roads between ten places. */
    private static String roads(int count) {
        StringBuilder text = new StringBuilder(TEN);
        int told = 0;
        for (char a = 'a'; a <= 'j'; a++) {
            for (char b = 'j'; b > a && told < count; b--) {
                text.append("road ").append(a).append(' ').append(b).append(1 + told % 9).append(';');
                told++;
            }
        }
        return text.toString();
    }

    private static void allRoads() {
        ShutPasses x = Check.fine(roads(24), 25);
        Check.due("24 roads", x.count(1), 24);
        Check.due("the last one's hours", x.look(23, 2), 1 + 23 % 9);
        Check.due("the last one's end", x.look(23, 0), 2);
        Check.due("no 25th", Check.thrown(x, 24, 0), 1);
        String all = roads(24);
        Check.fault(roads(25), 2, all.length());
        Check.fault(all + "road", 2, all.length());
        Check.fault(all + "road a j 1;", 2, all.length());
        Check.fault(all + "road x x 0;", 2, all.length());
        Check.fault(all + "roads", 1, all.length());
        Check.due("others may follow", Check.fine(all + "from a;to b;", 27).count(6), 1);
    }

    private static void sixDoubtful() {
        String six = TEN + "cause r 1;road a b1doubt1;road a c1by r;road a d1doubt1by r;road a e1doubt9wait9;"
                + "road a f1by r wait9;road a g1;road a h1doubt1;";
        ShutPasses x = Check.fine(six, 9);
        Check.due("six", x.count(2), 6);
        int[] numbers = {0, 1, 2, 3, 4, -1, 5};
        for (int road = 0; road < 7; road++) {
            Check.due("numbered as they come", x.look(road, 6), numbers[road]);
        }
        int at = six.length() + 10;
        Check.fault(six + "road a i 1doubt 1;", 2, at);
        Check.fault(six + "road a i 1by r;", 2, at);
        Check.fault(six + "road a i 1doubt 1 by r;", 2, at);
        // at doubt or by, before what is wrong behind it
        Check.fault(six + "road a i 1doubt 0;", 2, at);
        Check.fault(six + "road a i 1doubt", 2, at);
        Check.fault(six + "road a i 1by x;", 2, at);
        Check.fault(six + "road a i 0doubt 1;", 2, at - 1);
        Check.fault(six + "road a i 1wait 1;", 1, at);
        Check.due("a road without doubt", Check.fine(six + "road a i 1;", 10).count(1), 8);
    }

    private static void sightsAndWords() {
        String land = "place s t u;road s t 1 doubt 1;";
        Check.fine(land + "sees u s t;".repeat(8), 10);
        Check.fault(land + "sees u s t;".repeat(9), 2, land.length() + 8 * 11);
        Check.fault(land + "sees u t s;".repeat(8) + "sees", 2, land.length() + 8 * 11);
        // one with an end at the place is one of the eight
        Check.fault(land + "sees s t s;".repeat(8) + "sees u s t;", 2, land.length() + 8 * 11);
        ShutPasses x = Check.fine(land + "inn u t s 1;".repeat(6), 8);
        Check.due("six", x.count(4), 6);
        Check.fault(land + "inn u t s 1;".repeat(7), 2, land.length() + 6 * 12);
        Check.fault(land + "inn u t s 1;".repeat(6) + "inn", 2, land.length() + 6 * 12);
        Check.fine(land + "inn u t s 1;".repeat(6) + "sees u s t;".repeat(8), 16);
        Check.due("seen", seenFrom("sees u s t;"), -1);
        Check.due("seen, told the other way round", seenFrom("sees u t s;"), -1);
        Check.due("not seen", seenFrom(""), 0);
    }

    private static int seenFrom(String sight) {
        // at u nothing need be known, but what is seen there
        return Check.landed("place s t u;road s t 1 doubt 1;road s u 1;from u;to s;" + sight).next(0, 2, 0);
    }

    private static void toldAlready() {
        Check.fault("place s s;", 3, 8);
        Check.fault("place s t s;", 3, 10);
        Check.fault("place s;place t;place s;", 3, 22);
        Check.fault("cause r 1;cause r 2;", 3, 16);
        Check.fault("cause r 1;cause r", 3, 16);
        Check.due("both may have one", Check.fine("place r;cause r 1;", 2).count(3), 1);
        Check.due("both may have one", Check.fine("cause r 1;place r;", 2).count(0), 1);
        String land = "place s t u;from s;to t;";
        Check.fault(land + "from t;", 3, 24);
        Check.fault(land + "from s;", 3, 24);
        Check.fault(land + "from", 3, 24);
        Check.fault(land + "from 1;", 3, 24);
        Check.fault(land + "to t;", 3, 24);
        Check.fault(land + "to s;", 3, 24);
        Check.fault(land + "to", 3, 24);
        Check.due("from may be to", Check.fine("place s;to s;from s;", 3).count(5), 0);
        String road = "place s t u;road s t 1 doubt 2;";
        Check.fault(road + "road s t 1;", 3, road.length() + 7);
        Check.fault(road + "road t s 1;", 3, road.length() + 7);
        Check.fault(road + "road t s", 3, road.length() + 7);
        Check.fault(road + "road t s 0;", 3, road.length() + 7);
        Check.fault(road + "road s s 1;", 3, road.length() + 7);
        Check.fault(road + "road u u", 3, road.length() + 7);
        Check.fine(road + "road s u 1;road u t 1;", 4);
    }

    private static void notToldAhead() {
        Check.fault("from s;", 4, 5);
        Check.fault("to s;", 4, 3);
        Check.fault("to s", 4, 3);
        Check.fault("from s;place s;", 4, 5);
        Check.fault("place s;from t;place t;", 4, 13);
        Check.fault("place s;road s t 1;place t;", 4, 15);
        Check.fault("place s;road t s 1;place t;", 4, 13);
        Check.fault("place s;road t t 1;", 4, 13);
        // a cause is no place and a place no cause
        Check.fault("cause r 1;from r;", 4, 15);
        Check.fault("place s t;road s t 1 by s;", 4, 24);
        Check.fault("place s t;road s t 1 by r;cause r 1;", 4, 24);
        Check.fault("place s t;road s t 1 doubt 1 by r", 4, 32);
        String land = "place s t u;road s t 1 doubt 1;road t u 1;";
        int at = land.length();
        Check.fault(land + "sees x s t;", 4, at + 5);
        Check.fault(land + "sees u x t;", 4, at + 7);
        Check.fault(land + "sees u s x;", 4, at + 9);
        Check.fault(land + "sees u s u;", 4, at + 9);
        Check.fault(land + "sees u t u;", 4, at + 9);
        Check.fault(land + "sees u u t", 4, at + 9);
        Check.fault(land + "inn x s t 1;", 4, at + 4);
        Check.fault(land + "inn u x t 1;", 4, at + 6);
        Check.fault(land + "inn u s x 1;", 4, at + 8);
        Check.fault(land + "inn u s u 1;", 4, at + 8);
        Check.fault(land + "inn u t u 0;", 4, at + 8);
        Check.fault("place s t u;sees u s t;road s t 1 doubt 1;", 4, 21);
        Check.fault("place s t u;inn u s t 1;road s t 1 doubt 1;", 4, 20);
        Check.due("told turned round", Check.fine(land + "sees u t s;inn u t s 1;", 5).count(4), 1);
    }

    /** Two faults in a text: the first along it, whatever kind it is. */
    private static void theFirstFault() {
        String[] faults = {"place s 1;", "cause r 0;", "place s s;", "from x;"};
        int[] kinds = {1, 2, 3, 4};
        int[] places = {8, 8, 8, 5};
        for (int i = 0; i < faults.length; i++) {
            for (String other : faults) {
                Check.fault(faults[i] + other, kinds[i], places[i]);
                Check.fault("place t;" + faults[i] + other, kinds[i], 8 + places[i]);
            }
        }
        // in one line
        Check.fault("place s t;road x s 0;", 4, 15);
        Check.fault("place s t;road s s 0;", 3, 17);
        Check.fault("place s t;road s t 0 wait;", 2, 19);
        Check.fault("place s t;road s t 1 wait 0;", 1, 21);
    }

    private static void theTape() {
        Check.about = "promise 2";
        ShutPasses x = new ShutPasses();
        // "plac" "e ab" ";pla" "ce c" ";   "
        Check.due("feed", x.feed(0x706c6163, 0x65206162, 0x3b706c61, 0x63652063, 0x3b202020), 20);
        Check.due("lines", x.land(17), 2);
        Check.due("places", x.count(0), 2);
        for (int byteAt = 0; byteAt < 20; byteAt++) {
            // one byte that is no token, the rest blanks: each number's highest byte comes first
            int[] numbers = {0x20202020, 0x20202020, 0x20202020, 0x20202020, 0x20202020};
            int shift = 8 * (3 - byteAt % 4);
            numbers[byteAt / 4] = numbers[byteAt / 4] & ~(255 << shift) | (byteAt % 2 == 0 ? 255 : 128) << shift;
            Check.due("feed", x.feed(numbers[0], numbers[1], numbers[2], numbers[3], numbers[4]), 20);
            Check.due("land", x.land(20), -1);
            Check.due("fault", x.fault(0), 1);
            Check.due("place", x.fault(1), byteAt);
        }
        Check.due("extremes", x.feed(-2147483648, 2147483647, -1, 0, 1), 20);
        Check.due("land", x.land(20), -1);
        Check.due("place", x.fault(1), 0);
    }

    private static void theFullTape() {
        Check.about = "promise 2, 600 bytes";
        ShutPasses x = new ShutPasses();
        for (int i = 1; i <= 29; i++) {
            Check.due("feed", x.feed(0x20202020, 0x20202020, 0x20202020, 0x20202020, 0x20202020), 20 * i);
        }
        // the last twenty: "place s t" to the end, ";" as the 600th
        Check.due("feed", x.feed(0x20202020, 0x20202070, 0x6c616365, 0x20732020, 0x2020743b), 600);
        for (int i = 0; i < 3; i++) {
            Check.due("none come", x.feed(0x3b3b3b3b, 0x3b3b3b3b, 0x3b3b3b3b, 0x3b3b3b3b, 0x3b3b3b3b), -1);
        }
        Check.due("there are not so many", x.land(601), -2);
        Check.due("there are not so many", x.land(620), -2);
        Check.due("all 600", x.land(600), 1);
        Check.due("places", x.count(0), 2);
        Check.due("it is empty then", x.feed(0, 0, 0, 0, 0), 20);
        StringBuilder text = new StringBuilder("place s");
        while (text.length() < 600) {
            text.append(text.length() % 2 == 0 ? ' ' : '\n');
        }
        Check.fault(text.toString(), 1, 600);
        text.setCharAt(599, ';');
        Check.fine(text.toString(), 1);
        text.setCharAt(599, '7');
        Check.fault(text.toString(), 1, 599);
        StringBuilder tokens = new StringBuilder();
        while (tokens.length() < 600) {
            tokens.append(";");
        }
        Check.fault(tokens.toString(), 1, 0);
        StringBuilder digits = new StringBuilder("cause r ");
        while (digits.length() < 600) {
            digits.append("9");
        }
        Check.fault(digits.toString(), 2, 8);
        StringBuilder letters = new StringBuilder("place ");
        while (letters.length() < 600) {
            letters.append("a");
        }
        Check.fault(letters.toString(), 1, 6);
    }

    private static void theBytesOfALand() {
        Check.about = "promise 3";
        ShutPasses x = new ShutPasses();
        Check.feed(x, "place s;place t;::::");
        for (int n : new int[] {-2147483648, -600, -2, -1, 21, 40, 600, 601, 2147483647}) {
            Check.due("land(" + n + ")", x.land(n), -2);
        }
        Check.due("no fault by these", x.fault(0), 0);
        Check.due("and no land", x.count(0), 0);
        Check.due("the tape stays", x.feed(0, 0, 0, 0, 0), 40);
        Check.due("the first 16 bytes", x.land(16), 2);
        Check.due("places", x.count(0), 2);
        Check.due("it is empty then, all of it", x.land(1), -2);
        Check.due("it is empty then, all of it", x.feed(0, 0, 0, 0, 0), 20);
        Check.due("none of its bytes", x.land(0), 0);
        Check.due("no places then", x.count(0), 0);
        Check.due("it is empty then", x.land(1), -2);
        Check.feed(x, "place s t;          ");
        Check.due("a fault", x.land(9), -1);
        Check.due("the length", x.fault(1), 9);
        Check.due("it is empty with a fault, too", x.land(1), -2);
        Check.feed(x, "place s t;          ");
        Check.due("to its last byte", x.land(20), 1);
        Check.feed(x, "place s;;           ");
        Check.due("what stands behind is no part of it", x.land(8), 1);
        Check.due("no fault", x.fault(0), 0);
    }

    private static void latestFault() {
        Check.about = "promise 4";
        ShutPasses x = new ShutPasses();
        Check.due("no land yet", x.fault(0), 0);
        Check.due("no land yet", x.fault(1), -1);
        Check.due("-2", x.land(5), -2);
        Check.due("as before", x.fault(0), 0);
        Check.land(x, "place s s;");
        Check.due("-2", x.land(1), -2);
        Check.due("that before the -2", x.fault(0), 3);
        Check.due("that before the -2", x.fault(1), 8);
        Check.land(x, "cause r 0;");
        Check.due("the latest", x.fault(0), 2);
        Check.due("the latest", x.fault(1), 8);
        Check.land(x, ";");
        Check.due("a place 0", x.fault(1), 0);
        for (int what : new int[] {-2147483648, -2, -1, 2, 3, 2147483647}) {
            Check.due("fault(" + what + ")", x.fault(what), -1);
        }
        Check.land(x, "place s;");
        Check.due("no fault any more", x.fault(0), 0);
        Check.due("no place any more", x.fault(1), -1);
        Check.due("-2", x.land(-1), -2);
        Check.due("no fault any more", x.fault(0), 0);
    }

    private static void factsOfRoads() {
        ShutPasses x = Check.landed(TEN + "cause r 9;cause q 1;road j a 99 doubt 9 by q wait 99;road b a 1;"
                + "road a c 1 by r;road a d 1 doubt 1;");
        Check.about = "promise 5";
        int[][] due = {{9, 0, 99, 9, 1, 99, 0}, {1, 0, 1, 0, -1, 0, -1}, {0, 2, 1, 0, 0, 0, 1}, {0, 3, 1, 1, -1, 0, 2}};
        for (int road = 0; road < due.length; road++) {
            for (int what = 0; what < 7; what++) {
                Check.due("look(" + road + ", " + what + ")", x.look(road, what), due[road][what]);
                Check.due("and throws nothing", Check.thrown(x, road, what), 0);
            }
            for (int what : new int[] {-2147483648, -1, 7, 8, 2147483647}) {
                Check.due("no such what", Check.thrown(x, road, what), 2);
            }
        }
        for (int road : new int[] {-2147483648, -1, 4, 24, 2147483647}) {
            for (int what : new int[] {-1, 0, 6, 7}) {
                Check.due("no such road", Check.thrown(x, road, what), 1);
            }
        }
        Check.land(x, TEN);
        Check.due("the older land's road", Check.thrown(x, 0, 0), 1);
    }
}
