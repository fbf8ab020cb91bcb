/** THE LAW's answers, THE BOOK, UNDO, THE IMAGE and look (promises 17, 18, 33 to 35): each sentence that names an edge. */
public final class KeptEdges {
    private static final int NONE = -1;

    public static void main(String[] args) {
        lawAsked();
        lawOfNone();
        lawFirstLine();
        lawHeld();
        lawWords();
        lawFull();
        lawSong();
        lawSigns();
        lawWraps();
        lawClaims();
        bookAsked();
        bookWhat();
        bookFull();
        bookUndone();
        undoNothing();
        undoSix();
        undoEachDeed();
        undoEvening();
        undoLatestFirst();
        undoForgotten();
        undoNotForgotten();
        imageOfNone();
        imageKeeps();
        imageMoreThanOnce();
        imageUndone();
        lookAsked();
        lookCounts();
        Check.finish("KeptEdges");
    }

    private static void told(WoundTape x, int place, boolean on, int h, int speed, int late, int slip) {
        int[] due = {speed, late, slip};
        for (int w = 0; w < 3; w++) {
            Check.due("lawAt(" + place + ", " + on + ", " + h + ", " + w + ")", x.lawAt(place, on, h, w), due[w]);
        }
    }

    /** What slip comes to be by that law, from place 12 of TAPE, on, held 7. */
    private static void slips(String law, int due) {
        WoundTape x = Check.made(Check.TAPE, law, 0);
        Check.due("slip of " + law, x.lawAt(12, true, 7, 2), due);
    }

    private static void lawAsked() {
        Check.sentence("17: (0 .. 64): NONE if one can't be, or another what");
        WoundTape x = Check.even(1);
        int[][] bad = {{-1, 1, 0}, {36, 1, 0}, {0, -1, 0}, {0, 65, 0}, {0, 1, -1}, {0, 1, 3}, {Integer.MAX_VALUE, 1, 0},
            {Integer.MIN_VALUE, 1, 1}, {0, Integer.MAX_VALUE, 0}, {0, Integer.MIN_VALUE, 2}, {0, 1, Integer.MAX_VALUE},
            {0, 1, Integer.MIN_VALUE}};
        for (int[] b : bad) {
            Check.due("lawAt(" + b[0] + ", true, " + b[1] + ", " + b[2] + ")", x.lawAt(b[0], true, b[1], b[2]), NONE);
            Check.due("lawAt(" + b[0] + ", false, " + b[1] + ", " + b[2] + ")", x.lawAt(b[0], false, b[1], b[2]), NONE);
        }
        Check.tell(x, 1, "slip hold;");
        Check.due("held 0", x.lawAt(0, true, 0, 2), 0);
        Check.due("held 64", x.lawAt(35, false, 64, 2), 64);
    }

    private static void lawOfNone() {
        Check.sentence("2: none: speed: 2 and full by 20, late 1, slip 0; full by 20 downwards");
        WoundTape x = new WoundTape();
        told(x, 0, true, 1, 2, 1, 0);
        Check.tell(x, 0, "gap 50;gap 49;");
        int[][] due = {{0, 2}, {19, 2}, {20, 3}, {39, 3}, {40, 4}, {59, 4}, {60, 5}, {79, 5}, {80, 6}, {98, 6}, {99, 6}};
        for (int[] d : due) {
            told(x, d[0], true, 5, d[1], 1, 0);
            told(x, d[0], false, 60, d[1], 1, 0);
        }
        Check.tell(x, 1, "speed 9 when at>9;late 9 when at>9;slip 9 when at>9;");
        told(x, 9, true, 5, 2, 1, 0);
        told(x, 10, true, 5, 9, 9, 9);
        Check.tell(x, 1, "late 3;");
        told(x, 20, true, 5, 3, 3, 0);
    }

    private static void lawFirstLine() {
        Check.sentence("2: E of the first line with that word whose B is so, or that has none");
        WoundTape x = Check.made(Check.TAPE, "slip 1 when at=1;late 7;slip 2 when at<3;slip 3;slip 4;slip 5 when at=9;", 0);
        int[] due = {2, 1, 2, 3};
        for (int p = 0; p < due.length; p++) {
            Check.due("slip at " + p, x.lawAt(p, true, 1, 2), due[p]);
        }
        Check.due("slip at 9", x.lawAt(9, true, 1, 2), 3);
        Check.due("late at 9", x.lawAt(9, true, 1, 1), 7);
    }

    private static void lawHeld() {
        Check.sentence("2: speed held to 1 .. 30, late to 0 .. 9, slip to 0 .. 1000");
        int[][] due = {{0, 1, 0, 0}, {1, 1, 1, 1}, {2, 2, 2, 2}, {9, 9, 9, 9}, {10, 10, 9, 10}, {30, 30, 9, 30},
            {31, 30, 9, 31}, {999, 30, 9, 999}, {1000, 30, 9, 1000}, {1001, 30, 9, 1000}, {9999, 30, 9, 1000}};
        for (int[] d : due) {
            WoundTape x = Check.made(Check.TAPE, "speed " + d[0] + ";late " + d[0] + ";slip " + d[0] + ";", 0);
            told(x, 3, true, 4, d[1], d[2], d[3]);
        }
        WoundTape x = Check.made(Check.TAPE, "speed 0-1;late 0-1;slip 0-1;", 0);
        told(x, 3, true, 4, 1, 0, 0);
        Check.tell(x, 1, "speed 0-9999*9999;late 0-9999*9999;slip 0-9999*9999;");
        told(x, 3, true, 4, 1, 0, 0);
    }

    private static void lawWords() {
        Check.sentence("2: at: where it STANDS; on: 1, if it winds on, 0 back; hold; side; stops: STOPS");
        WoundTape x = Check.made(Check.TAPE, "slip 100*at+10*on+hold;late side;speed 1+stops;", 0);
        told(x, 0, true, 7, 1, 0, 17);
        told(x, 4, false, 9, 1, 0, 409);
        told(x, 4, true, 0, 1, 0, 410);
        x.turn();
        Check.due("this SIDE", x.lawAt(4, true, 1, 1), 1);
        x.wind(true, 1);
        x.wind(true, 1);
        x.hear(1);
        Check.due("STOPS", x.lawAt(4, true, 1, 0), 3);
        x.undo();
        x.undo();
        Check.due("STOPS undone", x.lawAt(4, true, 1, 0), 2);
    }

    private static void lawFull() {
        Check.sentence("2: full: 99 times that by L (L 0: 0), downwards");
        WoundTape x = new WoundTape();
        Check.tell(x, 1, "slip full+5;");
        Check.due("L 0", x.lawAt(0, true, 1, 2), 5);
        Check.tell(x, 1, "slip full;");
        Check.tell(x, 0, "gap 60;gap 40;");
        for (int p : new int[] {0, 1, 2, 50, 98, 99, 100}) {
            Check.due("full at " + p + " of 100", x.lawAt(p, true, 1, 2), 99 * p / 100);
        }
        Check.tell(x, 0, Check.LONG_TAPE);
        int[][] due = {{2, 0}, {3, 1}, {100, 49}, {101, 49}, {102, 50}, {199, 98}, {200, 99}};
        for (int[] d : due) {
            Check.due("full at " + d[0] + " of 200", x.lawAt(d[0], false, 1, 2), d[1]);
        }
        Check.tell(x, 0, "gap 1;");
        Check.due("full at 1 of 1", x.lawAt(1, true, 1, 2), 99);
    }

    private static void lawSong() {
        Check.sentence("2: song: the SONG at that PLACE, GAP or end: 99");
        WoundTape x = Check.made(Check.TAPE, "slip song;", 0);
        int[][] due = {{0, 0}, {9, 0}, {10, 99}, {14, 99}, {15, 1}, {34, 1}, {35, 99}};
        for (int[] d : due) {
            Check.due("song at " + d[0], x.lawAt(d[0], true, 1, 2), d[1]);
        }
        x.turn();
        int[][] other = {{0, 99}, {7, 99}, {8, 2}, {22, 2}, {23, 99}, {35, 99}};
        for (int[] d : other) {
            Check.due("song of side 1 at " + d[0], x.lawAt(d[0], true, 1, 2), d[1]);
        }
    }

    private static void lawSigns() {
        Check.sentence("2: E = T {(+ | -) T}, T = U {* U | / NUMBER}: from the left, * and / ahead of + and -");
        slips("slip 20-5-3;", 12);
        slips("slip 20-5+3;", 18);
        slips("slip 2+3*4;", 14);
        slips("slip 2*3+4;", 10);
        slips("slip 20-2*3-4;", 10);
        slips("slip 100/7/2;", 7);
        slips("slip 100/7*7;", 98);
        slips("slip 7*100/7;", 100);
        slips("slip at+hold*on;", 19);
        slips("slip at*hold-on;", 83);
        Check.sentence("2: / goes towards 0");
        slips("slip 100+7/2;", 103);
        slips("slip 100+0/2;", 100);
        slips("slip 100-7/2;", 97);
        slips("slip 100-7/4*4;", 96);
        // -2147483648 by 7 is -306783378 and a bit, and that is 3 * 9999 * 9999 + 684 * 9999 + 4059.
        slips("slip 5 when 8192*8192*32/7+9999*9999*3+9999*684+4059=0;slip 6;", 5);
        slips("slip 5 when 8192*8192*32/8192/8192=0-32;slip 6;", 5);
    }

    private static void lawWraps() {
        Check.sentence("2: Ints, which wrap");
        slips("slip 8192*8192*64+5;", 5);
        slips("slip 8192*8192*32+8192*8192*32+6;", 6);
        slips("slip 7 when 8192*8192*32<0;slip 8;", 7);
        slips("slip 7 when 0-8192*8192*32<0;slip 8;", 7);
        slips("slip 7 when 8192*8192*32-1>0;slip 8;", 7);
        slips("slip 9999*9999*9999;", Math.max(0, Math.min(1000, 9999 * 9999 * 9999)));
    }

    private static void lawClaims() {
        Check.sentence("2: B = A {or A}, A = C {and C}, C = E (< | = | >) E | not C | ( B )");
        slips("slip 5 when 3<3;slip 6;", 6);
        slips("slip 5 when 2<3;slip 6;", 5);
        slips("slip 5 when 3>3;slip 6;", 6);
        slips("slip 5 when 4>3;slip 6;", 5);
        slips("slip 5 when 3=3;slip 6;", 5);
        slips("slip 5 when 3=4;slip 6;", 6);
        String[] claims = {"1=2", "1=1"};
        for (int i = 0; i < 8; i++) {
            String a = claims[i & 1];
            String b = claims[i >> 1 & 1];
            String c = claims[i >> 2];
            boolean p = (i & 1) == 1;
            boolean q = (i >> 1 & 1) == 1;
            boolean r = i >> 2 == 1;
            slips("slip 5 when " + a + " or " + b + " and " + c + ";", p || q && r ? 5 : 0);
            slips("slip 5 when " + a + " and " + b + " or " + c + ";", p && q || r ? 5 : 0);
            slips("slip 5 when (" + a + " or " + b + ") and " + c + ";", (p || q) && r ? 5 : 0);
            slips("slip 5 when not " + a + " and " + b + " or " + c + ";", !p && q || r ? 5 : 0);
            slips("slip 5 when not (" + a + " and " + b + ") and " + c + ";", !(p && q) && r ? 5 : 0);
            slips("slip 5 when " + a + " and not not " + b + " and not " + c + ";", p && q && !r ? 5 : 0);
        }
        slips("slip 5 when at+1=13 and hold*2>13;", 5);
        slips("slip 5 when 1<2 and 1=1;slip 6;", 5);
        slips("slip 5 when 2>1 and 1=1 and 1<2;slip 6;", 5);
        slips("slip 5 when not 1=1;slip 6;", 6);
        slips("slip 5 when not 1=2;slip 6;", 5);
        slips("slip 5 when not not 1=2;slip 6;", 6);
        slips("slip 5 when not(1=1 or 1=2);slip 6;", 6);
        Check.sentence("2: not takes one C alone");
        slips("slip 5 when not 1=2 and 1=2;slip 6;", 6);
        slips("slip 5 when not 1=1 or 1=1;slip 6;", 5);
    }

    private static void bookAsked() {
        Check.sentence("18: NONE if there is none such, or another what");
        WoundTape x = Check.even(0);
        Check.due("an empty book", x.book(0, 0), NONE);
        x.wind(true, 3);
        x.hear(2);
        for (int i : new int[] {-1, 2, 149, 150, Integer.MAX_VALUE, Integer.MIN_VALUE}) {
            for (int w = 0; w < 4; w++) {
                Check.due("book(" + i + ", " + w + ")", x.book(i, w), NONE);
            }
        }
        for (int w : new int[] {-1, 4, Integer.MAX_VALUE, Integer.MIN_VALUE}) {
            Check.due("book(0, " + w + ")", x.book(0, w), NONE);
            Check.due("book(1, " + w + ")", x.book(1, w), NONE);
        }
    }

    private static void bookWhat() {
        Check.sentence("3: THE BOOK (STOPS then, what (0 .. 4), how much, where it STANDS then)");
        WoundTape x = Check.even(0);
        x.put(9);
        x.wind(true, 2);
        x.hear(4);
        x.turn();
        x.wind(false, 1);
        x.put(0);
        int[][] due = {{0, 4, 9, 9}, {1, 0, 2, 15}, {1, 2, 4, 19}, {1, 3, 0, 16}, {2, 1, 1, 13}, {2, 4, 0, 0}};
        for (int i = 0; i < due.length; i++) {
            for (int w = 0; w < 4; w++) {
                Check.due("book(" + i + ", " + w + ")", x.book(i, w), due[i][w]);
            }
        }
    }

    private static void bookFull() {
        Check.sentence("3: THE BOOK (150 lines; no more then)");
        WoundTape x = Check.even(0);
        Check.tell(x, 2, "again 7(again 7(hear 1))");
        x.evening();
        x.evening();
        x.evening();
        Check.looks(x, 9, 147);
        x.put(1);
        x.put(2);
        Check.due("no line 149 yet", x.book(149, 2), NONE);
        x.put(3);
        Check.looks(x, 9, 150);
        x.put(4);
        x.wind(true, 5);
        x.hear(6);
        x.turn();
        x.evening();
        Check.looks(x, 9, 150);
        Check.due("the first", x.book(0, 3), 1);
        Check.due("the 150th", x.book(149, 2), 3);
        Check.due("the 149th", x.book(148, 2), 2);
        Check.due("no 151st", x.book(150, 2), NONE);
        Check.due("it goes on without", x.look(6), 1);
        WoundTape y = Check.even(0);
        Check.tell(y, 2, "again 6(again 9(hear 1 ))again 6(turn)");
        y.evening();
        y.evening();
        y.evening();
        Check.looks(y, 9, 150);
        Check.due("within an evening, too", y.book(149, 1), 2);
        Check.looks(y, 5, 3 * (54 + 48));
    }

    private static void bookUndone() {
        Check.sentence("4: UNDO: goes back (THE BOOK, too)");
        WoundTape x = Check.even(0);
        Check.tell(x, 2, "again 7(again 7(hear 1))");
        x.evening();
        x.evening();
        x.evening();
        x.put(1);
        x.put(2);
        x.put(3);
        x.put(4);
        Check.due("undo()", x.undo(), true);
        Check.looks(x, 9, 150);
        Check.due("the line of the one before", x.book(149, 2), 3);
        Check.due("undo()", x.undo(), true);
        Check.looks(x, 9, 149);
        Check.due("no such line", x.book(149, 2), NONE);
        x.put(9);
        Check.looks(x, 9, 150);
        Check.due("written anew", x.book(149, 2), 9);
        for (int i = 0; i < 3; i++) {
            Check.due("undo()", x.undo(), true);
        }
        Check.looks(x, 9, 147);
        Check.due("undo()", x.undo(), true);
        Check.due("an evening's lines", x.look(9), 98);
    }

    private static void undoNothing() {
        Check.sentence("33: UNDO: true; false if there is nothing");
        WoundTape x = Check.even(1);
        String before = Check.seen(x);
        Check.due("undo()", x.undo(), false);
        Check.unchanged("undo of nothing", x, before);
        x.put(3);
        Check.due("undo()", x.undo(), true);
        Check.unchanged("put and undo", x, before);
        Check.due("undo()", x.undo(), false);
        Check.unchanged("undo of nothing", x, before);
    }

    private static void undoSix() {
        Check.sentence("4: 6 are kept");
        for (int deeds = 1; deeds <= 9; deeds++) {
            WoundTape x = Check.even(1);
            for (int i = 1; i <= deeds; i++) {
                x.put(i);
                Check.looks(x, 15, Math.min(6, i));
            }
            int kept = Math.min(6, deeds);
            for (int i = 1; i <= kept; i++) {
                Check.due("undo()", x.undo(), true);
                Check.looks(x, 3, deeds - i);
                Check.knows(x, deeds - i);
                Check.looks(x, 15, kept - i);
            }
            Check.due("undo() beyond", x.undo(), false);
            Check.looks(x, 3, deeds - kept);
        }
    }

    private static void undoEachDeed() {
        Check.sentence("4: the latest WINDING, HEARING, TURN, PUTTING, EVENING goes back (STATE, too)");
        WoundTape x = Check.made(Check.TAPE, "speed 3;late 1;slip 500;", 2);
        Check.tell(x, 2, "again 3(on 2 turn hear 4 back 1)");
        x.wind(true, 4);
        x.hear(2);
        for (int deed = 0; deed < 6; deed++) {
            String before = Check.seen(x);
            switch (deed) {
                case 0 -> x.wind(true, 7);
                case 1 -> x.wind(false, 3);
                case 2 -> x.hear(9);
                case 3 -> x.turn();
                case 4 -> x.put(30);
                default -> Check.due("evening()", x.evening(), 12);
            }
            Check.due("something happened", Check.seen(x).equals(before), false);
            Check.due("undo()", x.undo(), true);
            Check.unchanged("deed " + deed + " undone", x, before);
        }
        Check.looks(x, 15, 2);
    }

    private static void undoEvening() {
        Check.sentence("4: an EVENING goes back as one");
        WoundTape x = Check.even(1);
        Check.due("evening() without deeds", x.evening(), 0);
        Check.looks(x, 15, 1);
        Check.due("undo()", x.undo(), true);
        Check.looks(x, 15, 0);
        Check.tell(x, 2, "again 9(on 2 hear 3 turn back 1)");
        x.put(4);
        String before = Check.seen(x);
        Check.due("evening()", x.evening(), 36);
        Check.looks(x, 9, 37);
        Check.looks(x, 15, 2);
        Check.due("undo()", x.undo(), true);
        Check.unchanged("an evening undone", x, before);
        Check.looks(x, 12, 36);
    }

    private static void undoLatestFirst() {
        Check.sentence("4: the latest not undone yet");
        WoundTape x = Check.even(0);
        x.hear(1);
        x.hear(2);
        x.hear(3);
        Check.due("undo()", x.undo(), true);
        Check.looks(x, 3, 3);
        x.turn();
        Check.due("undo() of the turn", x.undo(), true);
        Check.looks(x, 3, 3);
        Check.due("undo()", x.undo(), true);
        Check.looks(x, 3, 1);
        Check.due("undo()", x.undo(), true);
        Check.looks(x, 3, 0);
        Check.due("undo()", x.undo(), false);
    }

    private static void undoForgotten() {
        Check.sentence("4: whatever else is told forgets them");
        for (int told = 0; told < 6; told++) {
            WoundTape x = Check.even(1);
            x.image(true);
            x.put(3);
            x.hear(1);
            Check.looks(x, 15, 2);
            switch (told) {
                case 0 -> x.state(0);
                case 1 -> x.set(0, 1);
                case 2 -> x.set(1, 10);
                case 3 -> Check.due("text(0)", Check.tell(x, 0, Check.TAPE), 3);
                case 4 -> Check.due("text(2)", Check.tell(x, 2, ""), 0);
                default -> Check.due("image(false)", x.image(false), true);
            }
            int stands = x.look(3);
            Check.looks(x, 15, 0);
            Check.due("undo() after telling " + told, x.undo(), false);
            Check.looks(x, 3, stands);
            x.turn();
            Check.looks(x, 15, 1);
        }
    }

    private static void undoNotForgotten() {
        Check.sentence("4: but THE LAW, AFTER, WORN (the taking of THE IMAGE does not)");
        WoundTape x = Check.even(1);
        x.put(3);
        x.hear(1);
        Check.due("text(1)", Check.tell(x, 1, "late 2;"), 1);
        Check.looks(x, 15, 2);
        Check.due("text(3)", Check.tell(x, 3, "after 0 1 wants 2;"), 1);
        Check.looks(x, 15, 2);
        Check.due("worn(1, 1)", x.worn(1, 1), 1);
        Check.due("worn(NONE, 0)", x.worn(NONE, 0), 0);
        Check.due("worn(1, 1)", x.worn(1, 1), 1);
        Check.looks(x, 15, 2);
        Check.due("image(true)", x.image(true), true);
        Check.looks(x, 15, 2);
        Check.sentence("4: nor does what is refused, or only asked");
        x.set(0, 5);
        x.set(2, 0);
        x.put(36);
        x.wind(true, 0);
        x.hear(0);
        for (int k = -1; k <= 4; k++) {
            Check.due("text(" + k + ") of ?", Check.tell(x, k, "?"), NONE);
        }
        x.feed(1, 2, 3, 4, 5);
        x.end(0);
        x.worn(36, 1);
        x.goes(0);
        x.soonest(0, 1, 0);
        x.tells(0);
        x.best();
        x.runs(0, true, 4);
        Check.looks(x, 15, 2);
        WoundTape none = Check.even(1);
        none.put(3);
        Check.due("no image to go back to", none.image(false), false);
        Check.looks(none, 15, 1);
        Check.sentence("4: what is not forgotten is not undone, either");
        Check.due("undo()", x.undo(), true);
        Check.due("undo()", x.undo(), true);
        Check.looks(x, 3, 0);
        Check.looks(x, 11, 1);
        Check.looks(x, 13, 1);
        Check.looks(x, 14, 1);
    }

    private static void imageOfNone() {
        Check.sentence("34: true; false if there is none");
        WoundTape x = Check.even(1);
        x.put(3);
        String before = Check.seen(x);
        Check.due("image(false)", x.image(false), false);
        Check.unchanged("going back to none", x, before);
        Check.due("image(true)", x.image(true), true);
        Check.unchanged("taking it", x, before);
        Check.due("image(false)", x.image(false), true);
        Check.sentence("34: of a new object, too");
        WoundTape y = new WoundTape();
        Check.due("image(true)", y.image(true), true);
        Check.tell(y, 0, Check.TAPE);
        Check.tell(y, 1, "late 3;");
        y.set(0, 4);
        y.turn();
        Check.due("image(false)", y.image(false), true);
        int[] due = {0, 0, 0, 0, 0, 0, 0, 1, 10, 0, 0, 0, 0, 0, 0, 0};
        for (int w = 0; w < due.length; w++) {
            Check.looks(y, w, due[w]);
        }
    }

    private static WoundTape full() {
        WoundTape x = Check.made(Check.TAPE, "speed 3;late 1;slip 500;", 2);
        Check.tell(x, 2, "again 2(on 2 turn)");
        Check.tell(x, 3, "after 0 1 wants 7;after 2 0 wants 9;");
        x.worn(9, 5);
        x.worn(10, 6);
        x.set(1, 33);
        x.state(-4);
        x.wind(true, 4);
        x.turn();
        x.hear(3);
        return x;
    }

    private static void changeAll(WoundTape x) {
        Check.tell(x, 0, "song 2 wants 2;song 2 wants 2;gap 3;turn;song 9 wants 1;song 1 wants 1;");
        Check.tell(x, 1, "speed 9;slip 9;");
        Check.tell(x, 2, "hear 1");
        Check.tell(x, 3, "after 1 0 wants 1;");
        x.worn(NONE, 0);
        x.worn(3, 3);
        x.set(0, 0);
        x.set(1, 1);
        x.state(8);
        x.put(2);
        x.wind(true, 1);
        x.turn();
        x.hear(1);
    }

    private static void imageKeeps() {
        Check.sentence("4: THE IMAGE: all that is and was told, as it was when it was taken");
        WoundTape x = full();
        Check.due("image(true)", x.image(true), true);
        x.undo();
        x.undo();
        x.undo();
        x.image(false);
        String before = Check.seen(x);
        changeAll(x);
        Check.due("much is otherwise", Check.seen(x).equals(before), false);
        Check.due("image(false)", x.image(false), true);
        Check.unchanged("going back", x, before);
        WoundTape y = full();
        y.image(true);
        Check.due("all undone", y.undo() && y.undo() && y.undo(), true);
        y.put(30);
        y.put(31);
        y.put(32);
        Check.due("image(false)", y.image(false), true);
        Check.unchanged("THE BOOK written anew", y, before);
        Check.sentence("4: all but the TAPE of bytes, fault() and what can be undone (nothing then)");
        Check.tell(x, 0, "gap 1;?");
        x.feed(1, 2, 3, 4, 5);
        x.turn();
        x.turn();
        x.image(true);
        x.end(7);
        x.put(4);
        Check.due("image(false)", x.image(false), true);
        Check.due("the bytes as they are", x.end(8), false);
        Check.due("the bytes as they are", x.end(7), true);
        Check.due("fault(1)", x.fault(1), 6);
        Check.looks(x, 15, 0);
        Check.due("undo()", x.undo(), false);
        x.end(0);
        Check.tell(x, 0, "gap 0;");
        x.image(false);
        Check.due("fault(1) of the latest text()", x.fault(1), 4);
    }

    private static void imageMoreThanOnce() {
        Check.sentence("4: gone back to it may be more than once");
        WoundTape x = full();
        x.image(true);
        x.image(false);
        String before = Check.seen(x);
        for (int i = 0; i < 2; i++) {
            x.put(30);
            x.worn(2, 2);
            x.wind(false, 3);
            Check.due("image(false)", x.image(false), true);
            Check.unchanged("going back", x, before);
        }
        Check.sentence("4: a later one is taken in its stead");
        x.put(7);
        x.image(true);
        x.put(9);
        Check.due("image(false)", x.image(false), true);
        Check.looks(x, 3, 7);
    }

    private static void imageUndone() {
        Check.sentence("4: UNDO after going back to THE IMAGE leaves it as it was");
        WoundTape x = Check.even(0);
        x.put(7);
        x.image(true);
        x.put(9);
        x.image(false);
        x.hear(2);
        x.turn();
        Check.looks(x, 15, 2);
        Check.due("undo()", x.undo(), true);
        Check.due("undo()", x.undo(), true);
        Check.due("undo()", x.undo(), false);
        Check.looks(x, 3, 7);
        Check.looks(x, 9, 1);
        x.put(1);
        Check.due("book(1, 2)", x.book(1, 2), 1);
        Check.due("image(false)", x.image(false), true);
        Check.looks(x, 9, 1);
        Check.due("book(1, 2)", x.book(1, 2), NONE);
        Check.due("book(0, 2)", x.book(0, 2), 7);
    }

    private static void lookAsked() {
        Check.sentence("35: NONE for another what");
        WoundTape x = full();
        for (int w : new int[] {-1, 16, 17, Integer.MAX_VALUE, Integer.MIN_VALUE}) {
            Check.looks(x, w, NONE);
        }
    }

    private static void lookCounts() {
        Check.sentence("35: look(9), (11) to (14): how many of each");
        WoundTape x = full();
        int[][] due = {{0, 35}, {1, 3}, {2, 1}, {6, 1}, {7, 2}, {8, 33}, {9, 3}, {11, 3}, {12, 4}, {13, 2}, {14, 2}, {15, 3}};
        for (int[] d : due) {
            Check.looks(x, d[0], d[1]);
        }
        Check.sentence("35: (STATE, SECONDS as they are)");
        WoundTape y = Check.even(0);
        y.state(-1);
        Check.looks(y, 10, -1);
        y.state(Integer.MIN_VALUE);
        Check.looks(y, 10, Integer.MIN_VALUE);
        int seconds = 0;
        for (int i = 0; i < 30; i++) {
            y.wind(true, 60);
            seconds += 61;
        }
        Check.due("SECONDS go beyond 999", y.look(5), seconds);
    }
}
