/** Terms 1 and 2 and promises 9 to 15: each sentence about a tape or a text that names an edge. */
public final class TextEdges {
    private static final int NONE = -1;
    private static final String TWENTY = "gap 1;".repeat(20);
    private static final String FOURTEEN = "song 1 wants 1;".repeat(14);

    public static void main(String[] args) {
        feedFull();
        feedHighestFirst();
        endsWithin();
        textTakesAnything();
        textNoSuch();
        textEmpty();
        textFullOfBytes();
        lengthOfLonger();
        lengthAtMost();
        songsAtMost();
        songLong();
        songWanted();
        gapLong();
        linesOfTape();
        turnOfTape();
        tapeToldAnew();
        tapeLeaves();
        linesOfLaw();
        openOfLaw();
        partByNought();
        numbersOfLaw();
        deedsOfEvening();
        openOfEvening();
        amountsOfEvening();
        linesOfAfter();
        songsOfAfter();
        wantsOfAfter();
        lastOfSeveral();
        tokensOfLetters();
        tokensOfDigits();
        tokensOfSigns();
        blanks();
        firstFault();
        leastFault();
        faultAtEnd();
        faultLeavesText();
        faultAsked();
        songAsked();
        atAsked();
        afterAsked();
        Check.finish("TextEdges");
    }

    private static int tell(WoundTape x, int k, String text) {
        return Check.tell(x, k, text);
    }

    private static void told(WoundTape x, int k, String text, int lines) {
        Check.due("text(" + k + ") of " + text, tell(x, k, text), lines);
        Check.due("fault(0) of " + text, x.fault(0), 0);
        Check.due("fault(1) of " + text, x.fault(1), NONE);
    }

    private static void fault(WoundTape x, int k, String text, int number, int place) {
        Check.due("text(" + k + ") of " + text, tell(x, k, text), NONE);
        Check.due("fault(0) of " + text, x.fault(0), number);
        Check.due("fault(1) of " + text, x.fault(1), place);
    }

    // ---- the tape of bytes

    private static void feedFull() {
        Check.sentence("9: NONE, and nothing comes, if there would be more than 400");
        WoundTape x = new WoundTape();
        for (int i = 1; i <= 20; i++) {
            Check.due("feed", x.feed(0x20202020, 0x20202020, 0x20202020, 0x20202020, 0x20202020), 20 * i);
        }
        Check.due("the 401st byte", x.feed(0, 0, 0, 0, 0), NONE);
        Check.due("end(400)", x.end(400), true);
        Check.due("end(381)", x.end(381), true);
        Check.due("401 bytes", x.feed(0, 0, 0, 0, 0), NONE);
        Check.due("nothing came", x.end(382), false);
        Check.due("only blanks", x.text(0), 0);
        Check.due("empty then", x.feed(0, 0, 0, 0, 0), 20);
        for (int n = 380; n < 400; n++) {
            WoundTape y = new WoundTape();
            Check.write(y, " ".repeat(n));
            Check.due("behind " + n, y.feed(1, 2, 3, 4, 5), n == 380 ? 400 : NONE);
        }
    }

    private static void feedHighestFirst() {
        Check.sentence("9: Twenty bytes come behind the TAPE, of each number the highest first");
        WoundTape x = new WoundTape();
        x.feed(0x736f6e67, 0x20312077, 0x616e7473, 0x20323b67, 0x61702033);
        Check.due("feed", x.feed(0x3b20200a, 0x20202020, 0x20202020, 0x20202020, 0x20202020), 40);
        Check.due("song 1 wants 2;gap 3;", x.text(0), 1);
        Check.looks(x, 0, 4);
        Check.due("song(0, 3)", x.song(0, 3), 2);
        x.feed(0x67617020, 0x373b2020, 0x20202020, 0x20202020, 0x202020ff);
        Check.due("byte 255", x.text(0), NONE);
        Check.due("its place", x.fault(1), 19);
    }

    private static void endsWithin() {
        Check.sentence("10: false, changing nothing, if it has not so many, or n is below 0");
        WoundTape x = new WoundTape();
        Check.due("end(1) of none", x.end(1), false);
        Check.due("end(0) of none", x.end(0), true);
        Check.due("end(-1) of none", x.end(-1), false);
        x.feed(0x67617020, 0x373b2020, 0x20202020, 0x20202020, 0x20202020);
        Check.due("end(21)", x.end(21), false);
        Check.due("end(-1)", x.end(-1), false);
        for (int n : Check.FAR) {
            Check.due("end(" + n + ")", x.end(n), false);
        }
        Check.due("all twenty", x.end(20), true);
        Check.due("the first six", x.end(6), true);
        Check.due("has not so many any more", x.end(7), false);
        Check.due("feed behind these", x.feed(0x67617020, 0x313b2020, 0x20202020, 0x20202020, 0x20202020), 26);
        Check.due("text(0)", x.text(0), 0);
        Check.looks(x, 0, 8);
    }

    private static void textTakesAnything() {
        Check.sentence("11: the TAPE is empty in each case");
        WoundTape x = new WoundTape();
        for (int k = -1; k <= 4; k++) {
            for (String text : new String[] {"", "?", "gap 1;"}) {
                tell(x, k, text);
                Check.due("empty after text(" + k + ") of " + text, x.end(1), false);
                Check.due("empty, not gone", x.end(0), true);
            }
        }
    }

    private static void textNoSuch() {
        Check.sentence("11: NONE: no such one (fault() tells 0)");
        for (int k : new int[] {-1, 4, Integer.MIN_VALUE, Integer.MAX_VALUE}) {
            WoundTape x = Check.even(1);
            x.put(3);
            Check.due("a fault before", tell(x, 0, " ?"), NONE);
            Check.due("fault(1)", x.fault(1), 1);
            String before = Check.seen(x);
            Check.due("text(" + k + ")", tell(x, k, "gap 1;"), NONE);
            Check.due("fault(0)", x.fault(0), 0);
            Check.due("fault(1)", x.fault(1), NONE);
            Check.unchanged("text(" + k + ")", x, before);
        }
    }

    private static void textEmpty() {
        Check.sentence("2: TEXTS (empty at first; the TAPE: L 0)");
        WoundTape x = new WoundTape();
        Check.looks(x, 0, 0);
        Check.looks(x, 1, 0);
        for (int w = 11; w <= 13; w++) {
            Check.looks(x, w, 0);
        }
        x = Check.even(1);
        told(x, 2, "turn", 1);
        told(x, 3, "after 0 1 wants 2;", 1);
        Check.sentence("11: an empty text is told as well: no lines");
        told(x, 1, "", 0);
        told(x, 2, " ", 0);
        told(x, 3, "\n", 0);
        for (int w = 11; w <= 13; w++) {
            Check.looks(x, w, 0);
        }
        Check.due("after(0, 1)", x.after(0, 1), 0);
        Check.due("speed of no law", x.lawAt(0, true, 1, 0), 2);
        Check.due("evening()", x.evening(), 0);
        told(x, 0, "", 0);
        Check.looks(x, 0, 0);
        Check.looks(x, 1, 0);
        Check.due("song(0, 0)", x.song(0, 0), NONE);
        Check.due("at(0, 0)", x.at(0, 0), 99);
        Check.due("at(0, 1)", x.at(0, 1), NONE);
    }

    private static void textFullOfBytes() {
        Check.sentence("9: 400 bytes are a text still");
        WoundTape x = new WoundTape();
        told(x, 1, "slip  1" + "+1".repeat(196) + ";", 1);
        Check.due("all of them told", x.lawAt(0, true, 1, 2), 197);
        fault(x, 1, "slip  1" + "+1".repeat(196) + "+", 1, 400);
        fault(x, 1, "slip 1" + "+1".repeat(196) + ";;", 1, 399);
        told(x, 1, "slip 5 when 1=2" + " or 1=2".repeat(53) + " or 1=1     ;", 1);
        Check.due("the last is so", x.lawAt(0, true, 1, 2), 5);
        told(x, 2, "on1".repeat(30) + "hear1".repeat(30) + " ".repeat(160), 60);
        told(x, 0, " ".repeat(393) + "gap 11;", 0);
        Check.looks(x, 0, 11);
        told(x, 0, "gap 1 " + " ".repeat(393) + ";", 0);
        Check.looks(x, 0, 1);
        fault(x, 0, "gap 1;" + " ".repeat(393) + "?", 1, 399);
        fault(x, 0, "s".repeat(400), 1, 0);
        fault(x, 0, "gap " + "1".repeat(396), 1, 4);
        fault(x, 0, ";".repeat(400), 1, 0);
    }

    // ---- THE TAPE

    private static void lengthOfLonger() {
        Check.sentence("1: L: as long as the longer side; behind the last one of a side a GAP up to L");
        WoundTape x = new WoundTape();
        told(x, 0, "song 4 wants 1;turn;gap 2;song 5 wants 1;", 2);
        Check.looks(x, 0, 7);
        int[][] heard = {{0, 0, 0}, {0, 3, 0}, {0, 4, 98}, {0, 6, 98}, {0, 7, 99}, {1, 0, 98}, {1, 1, 98}, {1, 2, 1},
            {1, 6, 1}, {1, 7, 99}};
        for (int[] h : heard) {
            Check.due("at(" + h[0] + ", " + h[1] + ")", x.at(h[0], h[1]), h[2]);
        }
        told(x, 0, "gap 9;turn;song 1 wants 1;", 1);
        Check.looks(x, 0, 9);
        Check.due("at(1, 1)", x.at(1, 1), 98);
        Check.due("at(1, 8)", x.at(1, 8), 98);
        Check.due("at(1, 9)", x.at(1, 9), 99);
        Check.due("at(0, 8)", x.at(0, 8), 98);
        told(x, 0, "song 3 wants 1;", 1);
        Check.due("nothing told on side 1", x.at(1, 2), 98);
        Check.due("nothing told on side 1", x.at(1, 3), 99);
    }

    private static void lengthAtMost() {
        Check.sentence("1: 200 at most");
        WoundTape x = new WoundTape();
        told(x, 0, "gap 60;gap 60;gap 60;song 20 wants 1;turn;song 20 wants 1;gap 60;gap 60;gap 60;", 2);
        Check.looks(x, 0, 200);
        Check.due("at(0, 199)", x.at(0, 199), 0);
        Check.due("at(0, 200)", x.at(0, 200), 99);
        Check.due("at(0, 201)", x.at(0, 201), NONE);
        Check.due("at(1, 199)", x.at(1, 199), 98);
        Check.due("at(1, 200)", x.at(1, 200), 99);
        Check.due("known(200)", x.known(200), 0);
        Check.due("known(201)", x.known(201), NONE);
        Check.due("runs(200, false, 0)", x.runs(200, false, 0), 199);
        Check.due("runs(201, false, 0)", x.runs(201, false, 0), NONE);
        Check.due("put(201)", x.put(201), false);
        Check.due("put(200)", x.put(200), true);
        Check.knows(x, 200);
        Check.due("hear(1)", x.hear(1), 99);
        Check.knows(x, 200);
        Check.due("turn()", x.turn(), 0);
        Check.knows(x, 0);
        Check.due("turn()", x.turn(), 200);
        Check.due("wind(true, 60)", x.wind(true, 60), 200);
        Check.knows(x, 200);
        Check.due("worn(200, 1)", x.worn(200, 1), 1);
        Check.due("worn(201, 1)", x.worn(201, 1), NONE);
        Check.sentence("2: 4 (at the end) a SIDE longer than 200");
        fault(x, 0, "gap 60;gap 60;gap 60;gap 21;", 4, 28);
        fault(x, 0, "gap 60;gap 60;gap 60;song 21 wants 0;", 4, 37);
        fault(x, 0, "gap 1;turn;gap 60;gap 60;gap 60;gap 21;\n ", 4, 41);
        fault(x, 0, "gap 60;".repeat(20), 4, 140);
        Check.looks(x, 0, 200);
    }

    private static void songsAtMost() {
        Check.sentence("1: SONGS 0 .. 13 by number (as told, side 0 first)");
        WoundTape x = new WoundTape();
        told(x, 0, FOURTEEN, 14);
        Check.due("song(13, 1)", x.song(13, 1), 13);
        Check.due("at(0, 13)", x.at(0, 13), 13);
        Check.due("song(14, 1)", x.song(14, 1), NONE);
        told(x, 0, "turn;" + FOURTEEN, 14);
        Check.due("song(0, 0)", x.song(0, 0), 1);
        Check.due("at(1, 13)", x.at(1, 13), 13);
        told(x, 0, "song 2 wants 1;turn;song 3 wants 2;gap 1;song 4 wants 3;", 3);
        Check.due("song(0, 0)", x.song(0, 0), 0);
        Check.due("song(1, 0)", x.song(1, 0), 1);
        Check.due("song(1, 1)", x.song(1, 1), 0);
        Check.due("song(2, 1)", x.song(2, 1), 4);
        Check.sentence("2: 3 (at its KEYWORD) the 15th SONG");
        fault(x, 0, FOURTEEN + "song 1 wants 1;", 3, 210);
        fault(x, 0, FOURTEEN + "turn; song 99 wants", 3, 216);
        fault(x, 0, FOURTEEN + "gap 1;song", 3, 216);
        told(x, 0, FOURTEEN + "gap 1;gap 1;gap 1;gap 1;gap 1;gap 1;", 14);
    }

    private static void songLong() {
        Check.sentence("1: LONG 1 .. 60");
        WoundTape x = new WoundTape();
        told(x, 0, "song 1 wants 1;song 60 wants 1;", 2);
        Check.due("song(0, 2)", x.song(0, 2), 1);
        Check.due("song(1, 2)", x.song(1, 2), 60);
        Check.due("song(1, 1)", x.song(1, 1), 1);
        fault(x, 0, "song 0 wants 1;", 2, 5);
        fault(x, 0, "song 61 wants 1;", 2, 5);
        fault(x, 0, "turn;song 9999 wants 1;", 2, 10);
    }

    private static void songWanted() {
        Check.sentence("1: WANTED 0 .. 99");
        WoundTape x = new WoundTape();
        told(x, 0, "song 1 wants 0;song 1 wants 99;", 2);
        Check.due("song(0, 3)", x.song(0, 3), 0);
        Check.due("song(1, 3)", x.song(1, 3), 99);
        fault(x, 0, "song 1 wants 100;", 2, 13);
        fault(x, 0, "song 1 wants -1;", 1, 13);
        fault(x, 0, "song 1;", 1, 6);
        fault(x, 0, "song 1 1;", 1, 7);
    }

    private static void gapLong() {
        Check.sentence("2: N of a gap 1 .. 60");
        WoundTape x = new WoundTape();
        told(x, 0, "gap 1;gap 60;", 0);
        Check.looks(x, 0, 61);
        fault(x, 0, "gap 0;", 2, 4);
        fault(x, 0, "gap 61;", 2, 4);
    }

    private static void linesOfTape() {
        Check.sentence("2: 20 lines at most, but turn");
        WoundTape x = new WoundTape();
        told(x, 0, TWENTY, 0);
        Check.looks(x, 0, 20);
        told(x, 0, TWENTY + "turn;", 0);
        told(x, 0, "turn;" + TWENTY, 0);
        told(x, 0, "gap 1;".repeat(19) + "turn;gap 1;", 0);
        Check.sentence("2: 3 (at its KEYWORD) the 21st line of THE TAPE");
        fault(x, 0, TWENTY + "gap 0;", 3, 120);
        fault(x, 0, TWENTY + "song 1 wants 1;", 3, 120);
        fault(x, 0, TWENTY + "turn;gap 1;", 3, 125);
        fault(x, 0, "turn;" + TWENTY + "gap 1;", 3, 125);
        fault(x, 0, TWENTY + ";", 1, 120);
        fault(x, 0, TWENTY + "turn;turn;", 1, 125);
    }

    private static void turnOfTape() {
        Check.sentence("2: [turn ; {song N wants N ; | gap N ;}]: once, or not at all");
        WoundTape x = new WoundTape();
        told(x, 0, "turn;", 0);
        Check.looks(x, 0, 0);
        told(x, 0, "gap 1;turn;", 0);
        fault(x, 0, "turn", 1, 4);
        fault(x, 0, "turn turn;", 1, 5);
        fault(x, 0, "turn;turn;", 1, 5);
        fault(x, 0, "gap 1;turn;gap 1;turn;gap 1;", 1, 17);
    }

    private static void tapeToldAnew() {
        Check.sentence("2: Told anew where it STANDS, KNOWN, COUNTER, SECONDS, STOPS are as at first; EVENING and AFTER are empty");
        WoundTape x = Check.even(2);
        told(x, 2, "turn hear 3", 2);
        told(x, 3, "after 0 1 wants 9;", 1);
        x.put(9);
        x.turn();
        x.hear(4);
        x.wind(true, 5);
        Check.looks(x, 4, 9);
        told(x, 0, Check.TAPE, 3);
        for (int w = 2; w <= 6; w++) {
            Check.looks(x, w, 0);
        }
        Check.knows(x, 0);
        for (int p = 1; p <= 35; p++) {
            Check.due("known(" + p + ")", x.known(p), 0);
        }
        Check.looks(x, 12, 0);
        Check.looks(x, 13, 0);
        Check.due("after(0, 1)", x.after(0, 1), 0);
        Check.due("evening()", x.evening(), 0);
    }

    private static void tapeLeaves() {
        Check.sentence("2: of the rest nothing is told anew with THE TAPE");
        WoundTape x = Check.even(3);
        x.set(1, 44);
        x.worn(16, 7);
        x.state(-9);
        x.put(5);
        told(x, 0, Check.TAPE, 3);
        Check.looks(x, 7, 3);
        Check.looks(x, 8, 44);
        Check.looks(x, 9, 1);
        Check.due("book(0, 2)", x.book(0, 2), 5);
        Check.looks(x, 10, -9);
        Check.looks(x, 11, 2);
        Check.looks(x, 14, 1);
        Check.due("sought(1)", x.sought(1), 7);
    }

    // ---- THE LAW

    private static void linesOfLaw() {
        Check.sentence("2: 3 (at its KEYWORD) the 17th line of THE LAW");
        WoundTape x = new WoundTape();
        String sixteen = "late 1;slip 2;".repeat(8);
        told(x, 1, sixteen, 16);
        Check.looks(x, 11, 16);
        fault(x, 1, sixteen + "speed 1;", 3, 112);
        fault(x, 1, sixteen + " late", 3, 113);
        fault(x, 1, sixteen + "slip 1/0;", 3, 112);
        fault(x, 1, sixteen + "when", 1, 112);
        fault(x, 1, sixteen + "7", 1, 112);
        Check.looks(x, 11, 16);
        told(x, 1, "slip 7 when 1=2;".repeat(15) + "slip 8;", 16);
        Check.due("the sixteenth tells", x.lawAt(0, true, 1, 2), 8);
    }

    private static void openOfLaw() {
        Check.sentence("2: 3 (at it) the 9th ( or not that is open");
        WoundTape x = new WoundTape();
        told(x, 1, "slip 5 when ((((((((1=1))))))));", 1);
        Check.due("lawAt", x.lawAt(0, true, 1, 2), 5);
        told(x, 1, "slip 5 when not not not not not not not not 1=1;", 1);
        Check.due("lawAt", x.lawAt(0, true, 1, 2), 5);
        told(x, 1, "slip 5 when not(not(not(not(1=1))))and not(not(not(not 1=1)));", 1);
        Check.due("seven nots", x.lawAt(0, true, 1, 2), 5);
        fault(x, 1, "slip 5 when ((((((((1=1 or (1=2", 3, 27);
        told(x, 1, "slip 5 when " + "not 1=2 and ".repeat(12) + "(1=1)" + " and(1=1)".repeat(12) + ";", 1);
        Check.due("one open at a time", x.lawAt(0, true, 1, 2), 5);
        fault(x, 1, "late 1 when (((((((((1=1)))))))));", 3, 20);
        fault(x, 1, "late 1 when not not not not not not not not not 1=1;", 3, 44);
        fault(x, 1, "late 1 when ((((((((not 1=1))))))));", 3, 20);
        fault(x, 1, "late 1 when not not not not not not not not(1=1);", 3, 43);
        fault(x, 1, "late 1 when ((((((((1=1)))))))) or (((((((((1=1", 3, 43);
        fault(x, 1, "late 1 when ((((((((1=1 (", 1, 24);
        fault(x, 1, "late 1 when ((((((((1=(", 1, 22);
    }

    private static void partByNought() {
        Check.sentence("2: 2 (at the NUMBER) a part by 0");
        WoundTape x = new WoundTape();
        fault(x, 1, "speed at/0;", 2, 9);
        fault(x, 1, "speed at / 000 * 2;", 2, 11);
        fault(x, 1, "late 1 when 1=8/4/0;", 2, 18);
        told(x, 1, "slip 0/1;", 1);
        told(x, 1, "slip 8/1;", 1);
        Check.due("by 1", x.lawAt(0, true, 1, 2), 8);
        told(x, 1, "slip 8*0;", 1);
        told(x, 1, "slip 9999/9999+8-0;", 1);
        Check.due("by 9999", x.lawAt(0, true, 1, 2), 9);
    }

    private static void numbersOfLaw() {
        Check.sentence("2: U = NUMBER: 0 .. 9999");
        WoundTape x = new WoundTape();
        told(x, 1, "slip 9999-9000;", 1);
        Check.due("9999", x.lawAt(0, true, 1, 2), 999);
        told(x, 1, "slip 0000+0007;", 1);
        Check.due("0007", x.lawAt(0, true, 1, 2), 7);
        fault(x, 1, "slip 10000;", 1, 5);
        fault(x, 1, "slip 1/10000;", 1, 7);
        fault(x, 1, "slip;", 1, 4);
        fault(x, 1, "slip 1+;", 1, 7);
        fault(x, 1, "slip -1;", 1, 5);
        fault(x, 1, "slip 1 1;", 1, 7);
        fault(x, 1, "slip 1/at;", 1, 7);
        fault(x, 1, "slip 1*;", 1, 7);
        fault(x, 1, "slip 1 when;", 1, 11);
        fault(x, 1, "slip 1 when 1<;", 1, 14);
        fault(x, 1, "slip 1 when 1=1 and;", 1, 19);
        fault(x, 1, "slip 1 when ();", 1, 13);
        fault(x, 1, "slip 1 when (1=1;", 1, 16);
        fault(x, 1, "slip 1 when 1=1);", 1, 15);
    }

    // ---- EVENING

    private static void deedsOfEvening() {
        Check.sentence("2: 4 (at the end) more than 60 deeds of EVENING");
        WoundTape x = Check.even(1);
        told(x, 2, "turn" + " turn".repeat(59), 60);
        fault(x, 2, "turn" + " turn".repeat(60), 4, 304);
        told(x, 2, "again 6(again 5(on 1 on 2))", 60);
        fault(x, 2, "again 6(again 5(on 1 on 2))hear 1  ", 4, 35);
        fault(x, 2, "hear 1 again 6(again 5(on 1 on 2))", 4, 34);
        fault(x, 2, "again 9(again 9(again 9(again 9(turn turn))))", 4, 45);
        told(x, 2, "again 9(again 9(again 9(again 9())))", 0);
        Check.looks(x, 12, 0);
        told(x, 2, "again 2(on 4 again 2(back 3)hear 2)turn", 9);
        Check.due("evening()", x.evening(), 9);
        int[] whats = {0, 1, 1, 2, 0, 1, 1, 2, 3};
        for (int i = 0; i < whats.length; i++) {
            Check.due("book(" + i + ", 1)", x.book(i, 1), whats[i]);
        }
    }

    private static void openOfEvening() {
        Check.sentence("2: 3 (at again) the 5th that is open");
        WoundTape x = new WoundTape();
        told(x, 2, "again 1(again 1(again 1(again 1(turn))))", 1);
        told(x, 2, "again 1(again 1(again 1(again 1()again 1(turn))))again 2(turn)", 3);
        fault(x, 2, "again 1(again 1(again 1(again 1( again 0", 3, 33);
        fault(x, 2, "again 1(again 1(again 1(again 1()again 1(again", 3, 41);
        fault(x, 2, "again 1(again 1(again 1(again 1()))", 1, 35);
        fault(x, 2, "again 1()) ", 1, 9);
        fault(x, 2, ")", 1, 0);
        fault(x, 2, "(turn)", 1, 0);
    }

    private static void amountsOfEvening() {
        Check.sentence("2: on, back: to wind so many seconds 1 .. 60; hear 1 .. 30; again 1 .. 9; no ; between");
        WoundTape x = Check.even(0);
        told(x, 2, "on 1 on 60 back 1 back 60 hear 1 hear 30 again 1(turn)", 7);
        told(x, 2, "again 9(turn)", 9);
        fault(x, 2, "on 0", 2, 3);
        fault(x, 2, "on 61", 2, 3);
        fault(x, 2, "back 0", 2, 5);
        fault(x, 2, "back 61", 2, 5);
        fault(x, 2, "hear 0", 2, 5);
        fault(x, 2, "hear 31", 2, 5);
        fault(x, 2, "again 0(turn)", 2, 6);
        fault(x, 2, "again 10(turn)", 2, 6);
        fault(x, 2, "on 1;back 1", 1, 4);
        fault(x, 2, "turn 1", 1, 5);
        fault(x, 2, "on", 1, 2);
        fault(x, 2, "again(turn)", 1, 5);
        fault(x, 2, "again 2 turn", 1, 8);
    }

    // ---- AFTER

    private static void linesOfAfter() {
        Check.sentence("2: 16 lines; 3 (at its KEYWORD) the 17th line of AFTER");
        WoundTape x = Check.even(1);
        String line = "after 0 1 wants 1;";
        told(x, 3, line.repeat(15) + "after 1 2 wants 5;", 16);
        Check.looks(x, 13, 16);
        Check.due("the sixteenth tells", x.after(1, 2), 5);
        fault(x, 3, line.repeat(16) + "after 0 0", 3, 288);
        fault(x, 3, line.repeat(16) + "\nafter", 3, 289);
        fault(x, 3, line.repeat(16) + "wants", 1, 288);
        Check.looks(x, 13, 16);
    }

    private static void songsOfAfter() {
        Check.sentence("2: after SONG SONG (unlike): 2 a SONG that there is not, the same one");
        WoundTape x = new WoundTape();
        fault(x, 3, "after 0 1 wants 1;", 2, 6);
        told(x, 0, FOURTEEN, 14);
        told(x, 3, "after 0 13 wants 1;after 13 0 wants 2;after 12 13 wants 3;", 3);
        Check.due("after(0, 13)", x.after(0, 13), 1);
        Check.due("after(13, 0)", x.after(13, 0), 2);
        Check.due("after(12, 13)", x.after(12, 13), 3);
        Check.due("after(13, 12)", x.after(13, 12), 0);
        fault(x, 3, "after 14 1 wants 1;", 2, 6);
        fault(x, 3, "after 1 14 wants 1;", 2, 8);
        fault(x, 3, "after 0 0 wants 1;", 2, 8);
        fault(x, 3, "after 13 13 wants 1;", 2, 9);
        fault(x, 3, "after 13 013 wants 1;", 2, 9);
        told(x, 0, Check.TAPE, 3);
        told(x, 3, "after 2 0 wants 1;after 2 1 wants 3;", 2);
        fault(x, 3, "after 3 0 wants 1;", 2, 6);
        fault(x, 3, "after 0 3 wants 1;", 2, 8);
    }

    private static void wantsOfAfter() {
        Check.sentence("2: wants N ; (N 0 .. 99)");
        WoundTape x = Check.even(1);
        told(x, 3, "after 0 1 wants 0;after 1 0 wants 99;", 2);
        Check.due("after(0, 1)", x.after(0, 1), 0);
        Check.due("after(1, 0)", x.after(1, 0), 99);
        fault(x, 3, "after 0 1 wants 100;", 2, 16);
        fault(x, 3, "after 0 1;", 1, 9);
        fault(x, 3, "after 0 1 wants 1", 1, 17);
        fault(x, 3, "after 0 wants 1;", 1, 8);
        fault(x, 3, "after wants 1;", 1, 6);
    }

    private static void lastOfSeveral() {
        Check.sentence("2: the last line of several; of others 0");
        WoundTape x = Check.even(1);
        told(x, 3, "after 0 1 wants 9;after 0 1 wants 0;after 1 2 wants 1;after 1 2 wants 3;", 4);
        Check.due("after(0, 1)", x.after(0, 1), 0);
        Check.due("after(1, 2)", x.after(1, 2), 3);
        Check.due("after(2, 1)", x.after(2, 1), 0);
        Check.looks(x, 13, 4);
        told(x, 3, "after 0 2 wants 1;", 1);
        Check.due("told anew", x.after(1, 2), 0);
    }

    // ---- TOKENS and FAULTS

    private static void tokensOfLetters() {
        Check.sentence("2: letters as many as stand together are KEYWORDS (those told here for that text) or none");
        WoundTape x = Check.even(1);
        told(x, 0, "song10wants5;gap5;turn;", 1);
        fault(x, 0, "songwants 1;", 1, 0);
        fault(x, 0, "son g 1 wants 1;", 1, 0);
        fault(x, 0, "song 1 want 1;", 1, 7);
        fault(x, 0, "song 1 wantss 1;", 1, 7);
        fault(x, 0, "GAP 1;", 1, 0);
        fault(x, 0, "gaP 1;", 1, 0);
        fault(x, 0, "gapz 1;", 1, 0);
        fault(x, 0, "agap 1;", 1, 0);
        fault(x, 0, "gap_1;", 1, 3);
        fault(x, 0, "gapA 1;", 1, 0);
        fault(x, 0, "gapZ 1;", 1, 0);
        String[][] strange = {{"speed 1;", "on 1", "after 0 1 wants 1;"}, {"gap 1;", "turn", "again 1(turn)", "wants"},
            {"song 1 wants 1;", "gap 1", "speed 1", "after", "not"}, {"song", "gap", "turn", "speed", "on 1", "again"}};
        for (int k = 0; k < 4; k++) {
            for (String s : strange[k]) {
                fault(x, k, s, 1, 0);
            }
        }
        for (String any : new String[] {"wants", "gap", "turn", "speed", "late", "slip", "when", "or", "not", "after"}) {
            fault(x, 1, "slip " + any + ";", 1, 5);
        }
    }

    private static void tokensOfDigits() {
        Check.sentence("2: digits as many as stand together NUMBERS of 1 to 4 digits or none");
        WoundTape x = new WoundTape();
        told(x, 0, "gap 7;gap 07;gap 007;gap 0007;", 0);
        Check.looks(x, 0, 28);
        fault(x, 0, "gap 00007;", 1, 4);
        fault(x, 0, "gap 12345;", 1, 4);
        fault(x, 0, "gap 1 2;", 1, 6);
        fault(x, 0, "gap ;", 1, 4);
        fault(x, 0, "gap 9999;", 2, 4);
        fault(x, 0, "7", 1, 0);
    }

    private static void tokensOfSigns() {
        Check.sentence("2: ; + - * / ( ) < = >: each stands alone, and what is none of these is no TOKEN");
        WoundTape x = new WoundTape();
        told(x, 1, "slip 1+2-3*4/5 when(1<2 or 2=2)and 3>1;", 1);
        fault(x, 1, "slip 1 when 1>=1;", 1, 14);
        fault(x, 1, "slip 1 when 1==1;", 1, 14);
        fault(x, 1, "slip 1++1;", 1, 7);
        for (int c = 0; c < 256; c++) {
            WoundTape y = new WoundTape();
            boolean joins = c >= '0' && c <= '9' || c == 32 || c == 10;
            boolean ends = c == ';';
            Check.due("text(0) with byte " + c, tell(y, 0, "gap 1" + (char) c + ";"), joins ? 0 : NONE);
            Check.due("its place", y.fault(1), joins ? NONE : ends ? 6 : 5);
            Check.due("text(0) with byte " + c + " alone", tell(y, 0, "" + (char) c), c == 32 || c == 10 ? 0 : NONE);
        }
        for (char c : new char[] {',', '.', ':', '!', '"', '#', '&', '[', '_', '`', '{', '@', '^', '|', '~', 127, 128, 255}) {
            fault(x, 1, "slip 1" + c, 1, 6);
            fault(x, 0, c + "gap 1;", 1, 0);
        }
    }

    private static void blanks() {
        Check.sentence("2: Blanks (32, 10) between");
        WoundTape x = new WoundTape();
        told(x, 0, "\n  gap\n1 \n;\n", 0);
        told(x, 0, "gap1;gap2;", 0);
        Check.looks(x, 0, 3);
        for (char c : new char[] {0, 1, 9, 11, 12, 13, 31, 33, 160}) {
            fault(x, 0, "gap 1" + c + ";", 1, 5);
        }
    }

    private static void firstFault() {
        Check.sentence("2: FAULTS, the first by its place");
        WoundTape x = new WoundTape();
        fault(x, 0, "gap 0;gap 61;?", 2, 4);
        fault(x, 0, "gap 1;gap 61;?", 2, 10);
        fault(x, 0, "gap 1;gap;gap 0;", 1, 9);
        fault(x, 0, "gap 60;gap 60;gap 60;gap 60;gap 61;", 2, 32);
        fault(x, 2, "again 9(again 9(turn))on 61", 2, 25);
        fault(x, 1, "late 1/0", 2, 7);
    }

    private static void leastFault() {
        Check.sentence("2: at one place the least");
        WoundTape x = new WoundTape();
        fault(x, 0, "gap 60;gap 60;gap 60;gap 60", 1, 27);
        fault(x, 0, "gap 60;gap 60;gap 60;gap 60;turn", 1, 32);
        fault(x, 2, "again 9(again 9(turn)", 1, 21);
        fault(x, 2, "again 9(again 9(turn))on", 1, 24);
        fault(x, 0, "song 1 wants 1;".repeat(14) + "gap 1;".repeat(6) + "song 0", 3, 246);
    }

    private static void faultAtEnd() {
        Check.sentence("2: 1 what can't stand there (the end: the text's length)");
        WoundTape x = Check.even(1);
        String[][] begun = {{"gap", "gap 1", "song", "song 1", "song 1 wants", "song 1 wants 1", "turn", "gap 1;turn"},
            {"late", "late 1", "late 1+", "late 1 when", "late 1 when 1", "late 1 when 1=1", "late 1 when not",
                "late 1 when (", "late 1 when (1=1"},
            {"on", "back", "hear", "again", "again 1", "again 1(", "again 1(turn"},
            {"after", "after 0", "after 0 1", "after 0 1 wants", "after 0 1 wants 1"}};
        for (int k = 0; k < 4; k++) {
            for (String s : begun[k]) {
                fault(x, k, s, 1, s.length());
                fault(x, k, s + " \n ", 1, s.length() + 3);
            }
        }
    }

    private static void faultLeavesText() {
        Check.sentence("11: a FAULT (the TEXT stays as it was)");
        WoundTape x = Check.even(1);
        told(x, 2, "on 4 hear 2 turn", 3);
        told(x, 3, "after 0 1 wants 3;", 1);
        x.put(3);
        x.hear(2);
        String before = Check.seen(x);
        String[][] bad = {{"gap 9;gap", "song 5 wants 5;gap 60;gap 60;gap 60;gap 60;", "?"},
            {"speed 9;late 9", "slip 1000;slip 1/0;"}, {"back 9 hear 9 on 0", "again 9(again 9(on 1))", "turn("},
            {"after 1 0 wants 7;after 0 1 wants 100;", "after 0 1 wants 9;after"}};
        for (int k = 0; k < 4; k++) {
            for (String s : bad[k]) {
                Check.due("text(" + k + ") of " + s, tell(x, k, s), NONE);
            }
            Check.unchanged("text(" + k + ")", x, before);
        }
    }

    private static void faultAsked() {
        Check.sentence("12: Of the latest text(): what 0 the FAULT (0 without one), 1 its place (NONE). NONE for another what");
        WoundTape x = new WoundTape();
        Check.due("fault(0) before any", x.fault(0), 0);
        Check.due("fault(1) before any", x.fault(1), NONE);
        tell(x, 0, "gap 0;");
        for (int w : new int[] {-1, 2, Integer.MIN_VALUE, Integer.MAX_VALUE}) {
            Check.due("fault(" + w + ")", x.fault(w), NONE);
        }
        Check.due("fault(0)", x.fault(0), 2);
        x.turn();
        x.feed(1, 2, 3, 4, 5);
        Check.due("of the latest text() still", x.fault(0) * 10 + x.fault(1), 24);
        x.end(0);
        Check.due("an empty text", x.text(2), 0);
        Check.due("fault(0)", x.fault(0), 0);
        Check.due("fault(1)", x.fault(1), NONE);
        fault(x, 0, "?", 1, 0);
        Check.sentence("12: a place 0 is not NONE");
        Check.due("fault(1)", x.fault(1), 0);
    }

    // ---- asked

    private static void songAsked() {
        Check.sentence("13: NONE if there is none such, or another what");
        WoundTape x = Check.even(1);
        for (int s : new int[] {-1, 3, 14, Integer.MIN_VALUE, Integer.MAX_VALUE}) {
            for (int w = 0; w < 4; w++) {
                Check.due("song(" + s + ", " + w + ")", x.song(s, w), NONE);
            }
        }
        for (int w : new int[] {-1, 4, Integer.MIN_VALUE, Integer.MAX_VALUE}) {
            Check.due("song(0, " + w + ")", x.song(0, w), NONE);
            Check.due("song(2, " + w + ")", x.song(2, w), NONE);
        }
        Check.due("song(2, 3)", x.song(2, 3), 2);
        Check.due("of none", new WoundTape().song(0, 0), NONE);
    }

    private static void atAsked() {
        Check.sentence("14: What is heard at a place of a SIDE (SONG, 98, 99); NONE if there is none such");
        WoundTape x = Check.even(1);
        int[][] due = {{0, 35, 99}, {1, 35, 99}, {0, 36, NONE}, {1, 36, NONE}, {0, -1, NONE}, {1, -1, NONE}, {2, 0, NONE},
            {-1, 0, NONE}, {0, Integer.MAX_VALUE, NONE}, {0, Integer.MIN_VALUE, NONE}, {Integer.MAX_VALUE, 0, NONE},
            {Integer.MIN_VALUE, 0, NONE}, {0, 34, 1}, {1, 34, 98}};
        for (int[] d : due) {
            Check.due("at(" + d[0] + ", " + d[1] + ")", x.at(d[0], d[1]), d[2]);
        }
    }

    private static void afterAsked() {
        Check.sentence("15: NONE if one can't be (alike)");
        WoundTape x = Check.even(1);
        int[][] bad = {{0, 0}, {2, 2}, {0, 3}, {3, 0}, {-1, 0}, {0, -1}, {-1, -1}, {Integer.MAX_VALUE, 0},
            {0, Integer.MIN_VALUE}};
        for (int[] b : bad) {
            Check.due("after(" + b[0] + ", " + b[1] + ")", x.after(b[0], b[1]), NONE);
        }
        Check.due("after(0, 2)", x.after(0, 2), 0);
        Check.due("after(2, 0)", x.after(2, 0), 0);
        Check.due("of none", new WoundTape().after(0, 1), NONE);
    }
}
