/** Each promise by itself, with answers reckoned by hand from the document. */
public final class PromiseTests {
    private static final String TAPE = "song 10 wants 5;gap 5;song 20 wants 9;turn;gap 8;song 15 wants 2;";
    private static final int NONE = -1;
    private static int promise;
    private static int passed;
    private static int failed;

    public static void main(String[] args) {
        newObject();
        state();
        set();
        put();
        wind();
        windSlipping();
        windKnown();
        hear();
        turn();
        evening();
        feedAndEnd();
        textOfTape();
        textOfLaw();
        textOfEvening();
        textOfAfter();
        textOfNone();
        faultOfTape();
        faultOfLaw();
        faultOfEvening();
        faultOfAfter();
        songAndAt();
        after();
        known();
        lawAt();
        lawWords();
        book();
        runs();
        soonest();
        turned();
        unsure();
        tells();
        card();
        order();
        halves();
        worn();
        rule();
        goes();
        undo();
        image();
        look();
        System.out.println("PromiseTests: " + passed + " passed, " + failed + " failed");
        if (failed != 0) {
            System.exit(1);
        }
    }

    private static void due(String what, long got, long due) {
        if (got == due) {
            passed++;
        } else {
            failed++;
            System.out.println("promise " + promise + ": " + what + " answered " + got + ", due is " + due);
        }
    }

    private static void due(String what, boolean got, boolean due) {
        due(what, got ? 1 : 0, due ? 1 : 0);
    }

    private static int tell(WoundTape x, int k, String text) {
        x.end(0);
        for (int i = 0; i < text.length(); i += 20) {
            int[] f = new int[5];
            for (int j = 0; j < 20; j++) {
                int c = i + j < text.length() ? text.charAt(i + j) : 32;
                f[j / 4] = f[j / 4] << 8 | c;
            }
            x.feed(f[0], f[1], f[2], f[3], f[4]);
        }
        x.end(text.length());
        return x.text(k);
    }

    /** A tape told, wound by three places a second, with a thumb as told. */
    private static WoundTape even(int thumb) {
        WoundTape x = new WoundTape();
        tell(x, 0, TAPE);
        tell(x, 1, "speed 3;late 0;");
        x.set(0, thumb);
        return x;
    }

    private static void looks(WoundTape x, int... due) {
        for (int i = 0; i < due.length; i++) {
            due("look(" + i + ")", x.look(i), due[i]);
        }
    }

    private static void newObject() {
        promise = 1;
        WoundTape x = new WoundTape();
        looks(x, 0, 0, 0, 0, 0, 0, 0, 1, 10, 0, 0, 0, 0, 0, 0, 0);
        due("NONE", WoundTape.NONE, -1);
        due("known(0)", x.known(0), 1);
        due("known(1)", x.known(1), NONE);
        due("at(0, 0)", x.at(0, 0), 99);
        due("at(1, 0)", x.at(1, 0), 99);
        due("fault(0)", x.fault(0), 0);
        due("fault(1)", x.fault(1), NONE);
        due("wind(true, 60)", x.wind(true, 60), 0);
        due("tells(2)", x.tells(2), 3);
        due("turn()", x.turn(), 0);
        due("hear(30)", x.hear(30), 99);
        due("evening()", x.evening(), 0);
        due("order(10)", x.order(10), NONE);
        due("undo()", new WoundTape().undo(), false);
        due("image(false)", new WoundTape().image(false), false);
    }

    private static void state() {
        promise = 2;
        WoundTape x = even(1);
        due("state", x.state(-7), 0);
        due("state", x.state(Integer.MIN_VALUE), -7);
        due("look(10)", x.look(10), Integer.MIN_VALUE);
        x.put(3);
        due("state", x.state(5), Integer.MIN_VALUE);
        due("look(15)", x.look(15), 0);
    }

    private static void set() {
        promise = 3;
        WoundTape x = even(1);
        int[][] bad = {{0, -1}, {0, 5}, {1, -1}, {1, 100}, {2, 1}, {-1, 1}};
        x.put(1);
        for (int[] b : bad) {
            due("set(" + b[0] + ", " + b[1] + ")", x.set(b[0], b[1]), false);
        }
        due("look(7)", x.look(7), 1);
        due("look(8)", x.look(8), 10);
        due("what is not set forgets nothing", x.look(15), 1);
        due("set(0, 4)", x.set(0, 4), true);
        due("look(15)", x.look(15), 0);
        due("set(0, 0)", x.set(0, 0), true);
        due("look(7)", x.look(7), 0);
        x.put(1);
        due("set(1, 99)", x.set(1, 99), true);
        due("look(15)", x.look(15), 0);
        due("look(8)", x.look(8), 99);
        due("set(1, 0)", x.set(1, 0), true);
        due("look(8)", x.look(8), 0);
    }

    private static void put() {
        promise = 4;
        WoundTape x = even(0);
        x.hear(3);
        due("look(4)", x.look(4), 3);
        due("put(-1)", x.put(-1), false);
        due("put(36)", x.put(36), false);
        due("look(3)", x.look(3), 3);
        due("look(9)", x.look(9), 1);
        due("put(35)", x.put(35), true);
        due("look(3)", x.look(3), 35);
        due("look(4)", x.look(4), 0);
        due("look(5)", x.look(5), 3);
        due("look(6)", x.look(6), 0);
        due("known(35)", x.known(35), 1);
        due("unsure(0)", x.unsure(0), 1);
        due("put(0)", x.put(0), true);
        due("book(2, 1)", x.book(2, 1), 4);
        due("book(1, 2)", x.book(1, 2), 35);
    }

    private static void wind() {
        promise = 5;
        WoundTape x = even(0);
        due("wind(true, 0)", x.wind(true, 0), NONE);
        due("wind(true, 61)", x.wind(true, 61), NONE);
        due("wind(false, -1)", x.wind(false, -1), NONE);
        due("look(15)", x.look(15), 0);
        due("wind(true, 4)", x.wind(true, 4), 12);
        due("no draw without a thumb", x.look(10), 0);
        due("look(5)", x.look(5), 5);
        due("look(6)", x.look(6), 1);
        due("look(4)", x.look(4), 12);
        due("wind(true, 60)", x.wind(true, 60), 35);
        due("look(5)", x.look(5), 66);
        due("counts what it went", x.look(4), 35);
        x.put(2);
        due("wind(false, 2)", x.wind(false, 2), 0);
        due("goes round", x.look(4), 998);
        tell(x, 1, "speed at+1;late at;");
        due("speed as it stands then", x.wind(true, 2), 6);
        tell(x, 1, "speed 1;late 5 when at=7;late 2;");
        due("late at the end", x.wind(true, 1), 12);
        due("late not beyond", x.put(34), true);
        due("late not beyond", x.wind(true, 1), 35);
        due("look(4)", x.look(4), 1);
        WoundTape y = even(1);
        // The first draw from 0 is 3960563, by 3: 2, less 1: one more; the second by 3: see there.
        due("wind(true, 4)", y.wind(true, 4), 15);
        due("look(10)", y.look(10), 1013904223);
        due("look(5)", y.look(5), 6);
        y.set(0, 4);
        y.put(0);
        y.state(0);
        // 3960563 by 9: 5, less 4: one more.
        due("wind(true, 1)", y.wind(true, 1), 6);
    }

    private static void windSlipping() {
        promise = 5;
        WoundTape x = even(0);
        tell(x, 1, "speed 3;late 2;slip 1000;");
        due("wind(true, 3)", x.wind(true, 3), 11);
        due("only late counts", x.look(4), 2);
        int draws = 0;
        for (int i = 0; i < 3; i++) {
            draws = draws * 1664525 + 1013904223;
        }
        due("a draw a second", x.look(10), draws);
        tell(x, 1, "speed 3;late 0;slip 564 when at=0;");
        x.put(0);
        x.state(0);
        // The first draw by 1000 is 563; from place 3 on there is no slip, so no draw.
        due("wind(true, 2)", x.wind(true, 2), 6);
        due("look(4)", x.look(4), 3);
        due("look(10)", x.look(10), 1013904223);
        tell(x, 1, "speed 3;late 0;slip 563 when at=0;");
        x.put(0);
        x.state(0);
        due("wind(true, 2)", x.wind(true, 2), 6);
        due("look(4)", x.look(4), 6);
    }

    private static void windKnown() {
        promise = 5;
        WoundTape x = even(2);
        x.wind(true, 1);
        // Held 0, 0, 1, 2, 3.
        for (int p = 0; p <= 35; p++) {
            due("known(" + p + ")", x.known(p), p == 0 || p == 3 || p == 6 || p == 9 ? 1 : 0);
        }
        tell(x, 1, "speed 1+stops;late 0;");
        x.set(0, 0);
        x.put(0);
        due("stops before it", x.wind(true, 1), 2);
        due("known(2)", x.known(2), 1);
        due("unsure(0)", x.unsure(0), 1);
    }

    private static void hear() {
        promise = 6;
        WoundTape x = even(1);
        due("hear(0)", x.hear(0), NONE);
        due("hear(31)", x.hear(31), NONE);
        due("look(15)", x.look(15), 0);
        due("hear(10)", x.hear(10), 0);
        due("look(3)", x.look(3), 10);
        due("hear(1)", x.hear(1), 98);
        due("hear(5)", x.hear(5), 1);
        due("look(5)", x.look(5), 16);
        due("look(4)", x.look(4), 16);
        due("look(6)", x.look(6), 0);
        due("hear(30)", x.hear(30), 99);
        due("look(3)", x.look(3), 35);
        due("look(4)", x.look(4), 35);
        due("look(5)", x.look(5), 46);
        due("known(35)", x.known(35), 1);
        x.put(0);
        x.state(0);
        x.wind(true, 4);
        // At 15 of 9, 12, 15: of these only 15 hears song 1.
        due("hear(1)", x.hear(1), 1);
        due("known(16)", x.known(16), 1);
        due("unsure(0)", x.unsure(0), 1);
    }

    private static void turn() {
        promise = 7;
        WoundTape x = even(1);
        x.wind(true, 4);
        due("turn()", x.turn(), 20);
        due("look(2)", x.look(2), 1);
        due("look(4)", x.look(4), 0);
        due("look(5)", x.look(5), 14);
        due("look(6)", x.look(6), 1);
        due("known(20)", x.known(20) + x.known(23) + x.known(26), 3);
        due("unsure(0)", x.unsure(0), 3);
        due("turn()", x.turn(), 15);
        due("look(2)", x.look(2), 0);
    }

    private static void evening() {
        promise = 8;
        WoundTape x = even(1);
        due("none told", x.evening(), 0);
        due("text(2)", tell(x, 2, "on 4 hear 2 turn again 2(back 1)"), 5);
        due("evening()", x.evening(), 5);
        due("look(9)", x.look(9), 5);
        due("as with the thumb", x.book(0, 2), 5);
        due("book(1, 1)", x.book(1, 1), 2);
        due("book(2, 1)", x.book(2, 1), 3);
        due("book(4, 1)", x.book(4, 1), 1);
        due("look(6)", x.look(6), 3);
        due("look(15)", x.look(15), 1);
        due("undone at once", x.undo(), true);
        due("look(9)", x.look(9), 0);
        due("look(10)", x.look(10), 0);
    }

    private static void feedAndEnd() {
        promise = 9;
        WoundTape x = new WoundTape();
        for (int i = 1; i <= 20; i++) {
            due("feed", x.feed(i, i, i, i, i), 20 * i);
        }
        due("feed", x.feed(1, 2, 3, 4, 5), NONE);
        promise = 10;
        due("end(401)", x.end(401), false);
        due("end(-1)", x.end(-1), false);
        due("end(400)", x.end(400), true);
        due("end(381)", x.end(381), true);
        due("feed", x.feed(1, 2, 3, 4, 5), NONE);
        due("end(380)", x.end(380), true);
        due("feed", x.feed(1, 2, 3, 4, 5), 400);
        due("end(0)", x.end(0), true);
        due("end(1)", x.end(1), false);
        due("highest first", x.feed(0x67617020, 0x373b2020, 0x20202020, 0x20202020, 0x200a0a20), 20);
        due("text(0)", x.text(0), 0);
        due("look(0)", x.look(0), 7);
        due("empty then", x.end(1), false);
    }

    private static void textOfTape() {
        promise = 11;
        WoundTape x = even(1);
        tell(x, 2, "turn");
        tell(x, 3, "after 0 1 wants 3;");
        x.worn(3, 4);
        x.wind(true, 5);
        x.turn();
        due("text(0)", tell(x, 0, ""), 0);
        due("told anew", x.look(0), 0);
        looks(x, 0, 0, 0, 0, 0, 0, 0, 1, 10, 2, x.look(10), 2, 0, 0, 1, 0);
        due("known(0)", x.known(0), 1);
        due("text(0)", tell(x, 0, "turn ; song 3wants 0;\ngap1; "), 1);
        due("song(0, 0)", x.song(0, 0), 1);
        due("look(0)", x.look(0), 4);
        due("a fault leaves it", tell(x, 0, "gap 5;gap"), NONE);
        due("look(0)", x.look(0), 4);
        due("the tape is empty", x.end(1), false);
        String twenty = "gap 9;".repeat(6) + "song 1 wants 99;".repeat(7) + "turn;" + "song 60 wants 0;".repeat(3)
            + "song 1 wants 0;".repeat(4);
        due("twenty lines, fourteen songs", tell(x, 0, twenty), 14);
        due("a side of 200", tell(x, 0, "gap 60;gap 60;gap 60;gap 20;turn;gap 60;gap 60;gap 60;gap 20;"), 0);
        due("look(0)", x.look(0), 200);
    }

    private static void textOfLaw() {
        promise = 11;
        WoundTape x = even(1);
        due("text(1)", tell(x, 1, "slip 1*2/3+at-on when not(at<1 or song=2)and stops>3;late 9999;"), 2);
        due("look(11)", x.look(11), 2);
        due("a fault leaves it", tell(x, 1, "late"), NONE);
        due("look(11)", x.look(11), 2);
        due("sixteen lines", tell(x, 1, "late 1;".repeat(16)), 16);
        due("eight open", tell(x, 1, "late 1 when not(not(not(not(1=1))));"), 1);
        due("text(1)", tell(x, 1, " \n"), 0);
        due("look(11)", x.look(11), 0);
    }

    private static void textOfEvening() {
        promise = 11;
        WoundTape x = even(1);
        due("text(2)", tell(x, 2, "again 3(again 2(on 1 turn)back 60)hear 30"), 16);
        due("look(12)", x.look(12), 16);
        due("a fault leaves it", tell(x, 2, "on 1)"), NONE);
        due("look(12)", x.look(12), 16);
        due("sixty", tell(x, 2, "again 9(again 6(turn))again 6(turn)"), 60);
        due("four open", tell(x, 2, "again 1(again 1(again 1(again 1(turn))))"), 1);
        due("nothing again", tell(x, 2, "again 9()"), 0);
        due("told anew it is empty", tell(x, 0, TAPE), 3);
        due("look(12)", x.look(12), 0);
    }

    private static void textOfAfter() {
        promise = 11;
        WoundTape x = even(1);
        due("text(3)", tell(x, 3, "after 0 1 wants 99;after 2 0 wants 0;after 0 1 wants 7;"), 3);
        due("look(13)", x.look(13), 3);
        due("a fault leaves it", tell(x, 3, "after 0 3 wants 1;"), NONE);
        due("after(0, 1)", x.after(0, 1), 7);
        due("sixteen lines", tell(x, 3, "after 0 1 wants 1;".repeat(16)), 16);
        due("told anew", tell(x, 3, ""), 0);
        due("after(0, 1)", x.after(0, 1), 0);
    }

    private static void textOfNone() {
        promise = 11;
        WoundTape x = new WoundTape();
        tell(x, 0, "?");
        due("fault(0)", x.fault(0), 1);
        for (int k : new int[] {-1, 4, Integer.MAX_VALUE}) {
            due("text(" + k + ")", tell(x, k, "gap 1;"), NONE);
            due("fault(0)", x.fault(0), 0);
            due("fault(1)", x.fault(1), NONE);
            due("the tape is empty", x.end(1), false);
        }
    }

    private static void fault(WoundTape x, int k, String text, int number, int place) {
        due("text(" + k + ") of " + text, tell(x, k, text), NONE);
        due("fault(0) of " + text, x.fault(0), number);
        due("fault(1) of " + text, x.fault(1), place);
        due("fault(2)", x.fault(2), NONE);
        due("fault(-1)", x.fault(-1), NONE);
    }

    private static void faultOfTape() {
        promise = 12;
        WoundTape x = new WoundTape();
        fault(x, 0, "song 1 wants 1", 1, 14);
        fault(x, 0, "song 1 wants 1 ", 1, 15);
        fault(x, 0, "songs 1 wants 1;", 1, 0);
        fault(x, 0, "Song 1 wants 1;", 1, 0);
        for (String letter : new String[] {"a", "z", "A", "Z"}) {
            fault(x, 0, "gap" + letter + " 1;", 1, 0);
        }
        fault(x, 0, "gap 00001;", 1, 4);
        fault(x, 0, "gap 1,", 1, 5);
        fault(x, 0, "gap 1\t;", 1, 5);
        fault(x, 0, "gap \u00ff;", 1, 4);
        fault(x, 0, "gap 0;?", 2, 4);
        fault(x, 0, "?gap 0;", 1, 0);
        fault(x, 0, "gap 61;", 2, 4);
        fault(x, 0, "song 61 wants 1;", 2, 5);
        fault(x, 0, "song 1 wants 100;", 2, 13);
        fault(x, 0, "turn;gap 1;turn;", 1, 11);
        fault(x, 0, "speed 1;", 1, 0);
        fault(x, 0, "gap 1;".repeat(20) + "song", 3, 120);
        fault(x, 0, "gap 1;".repeat(20) + "turn;gap", 3, 125);
        fault(x, 0, "gap 1;".repeat(20) + "wants", 1, 120);
        fault(x, 0, "song 1 wants 1;".repeat(14) + "turn;song 1 wants 1;", 3, 215);
        fault(x, 0, "gap 60;gap 60;gap 60;gap 21; ", 4, 29);
        fault(x, 0, "turn;gap 60;gap 60;gap 60;gap 21;", 4, 33);
        due("none", tell(x, 0, "gap 1;"), 0);
        due("fault(0)", x.fault(0), 0);
        due("fault(1)", x.fault(1), NONE);
    }

    private static void faultOfLaw() {
        promise = 12;
        WoundTape x = new WoundTape();
        fault(x, 1, "speed 3", 1, 7);
        fault(x, 1, "speed;", 1, 5);
        fault(x, 1, "speed -3;", 1, 6);
        fault(x, 1, "speed (3);", 1, 6);
        fault(x, 1, "speed at/on;", 1, 9);
        fault(x, 1, "speed at/0;", 2, 9);
        fault(x, 1, "speed at/0000;", 2, 9);
        fault(x, 1, "late 1 when (1=1;", 1, 16);
        fault(x, 1, "late 1 when 1;", 1, 13);
        fault(x, 1, "late 1 when (1)=1;", 1, 14);
        fault(x, 1, "late 1 when 1=1=1;", 1, 15);
        fault(x, 1, "late 1 when 1=1 or;", 1, 18);
        fault(x, 1, "late wants;", 1, 5);
        fault(x, 1, "late 1 when ((((((((( 1=1;", 3, 20);
        fault(x, 1, "late 1 when not(not(not(not(not 1=1))));", 3, 28);
        fault(x, 1, "late 1;".repeat(16) + "slip", 3, 112);
        fault(x, 1, "late 1;".repeat(16) + "when", 1, 112);
    }

    private static void faultOfEvening() {
        promise = 12;
        WoundTape x = new WoundTape();
        fault(x, 2, "on 1;", 1, 4);
        fault(x, 2, "on 61", 2, 3);
        fault(x, 2, "back 0", 2, 5);
        fault(x, 2, "hear 31", 2, 5);
        fault(x, 2, "again 0(turn)", 2, 6);
        fault(x, 2, "again 10(turn)", 2, 6);
        fault(x, 2, "again 2 turn", 1, 8);
        fault(x, 2, "again 2(turn", 1, 12);
        fault(x, 2, "turn)", 1, 4);
        fault(x, 2, "again 1(again 1(again 1(again 1(again 1(turn)))))", 3, 32);
        fault(x, 2, "again 9(again 9(turn)) ", 4, 23);
        fault(x, 2, "again 9(again 9(again 9(again 9(turn)))) gap", 1, 41);
    }

    private static void faultOfAfter() {
        promise = 12;
        WoundTape x = new WoundTape();
        fault(x, 3, "after 0 1 wants 1;", 2, 6);
        tell(x, 0, TAPE);
        fault(x, 3, "after 3 1 wants 1;", 2, 6);
        fault(x, 3, "after 0 3 wants 1;", 2, 8);
        fault(x, 3, "after 1 01 wants 1;", 2, 8);
        fault(x, 3, "after 0 1 wants 100;", 2, 16);
        fault(x, 3, "after 0 1 2;", 1, 10);
        fault(x, 3, "after 0;", 1, 7);
        fault(x, 3, "song 0 1 wants 1;", 1, 0);
        fault(x, 3, "after 0 1 wants 1;".repeat(16) + "after 9", 3, 288);
    }

    private static void songAndAt() {
        promise = 13;
        WoundTape x = even(1);
        int[][] songs = {{0, 0, 10, 5}, {0, 15, 20, 9}, {1, 8, 15, 2}};
        for (int s = 0; s < 3; s++) {
            for (int w = 0; w < 4; w++) {
                due("song(" + s + ", " + w + ")", x.song(s, w), songs[s][w]);
            }
        }
        due("song(3, 0)", x.song(3, 0), NONE);
        due("song(-1, 0)", x.song(-1, 0), NONE);
        due("song(0, 4)", x.song(0, 4), NONE);
        due("song(0, -1)", x.song(0, -1), NONE);
        promise = 14;
        int[][] heard = {{0, 0, 0}, {0, 9, 0}, {0, 10, 98}, {0, 14, 98}, {0, 15, 1}, {0, 34, 1}, {0, 35, 99},
            {1, 0, 98}, {1, 8, 2}, {1, 22, 2}, {1, 23, 98}, {1, 34, 98}, {1, 35, 99}, {0, 36, NONE}, {1, -1, NONE},
            {2, 0, NONE}, {-1, 0, NONE}};
        for (int[] h : heard) {
            due("at(" + h[0] + ", " + h[1] + ")", x.at(h[0], h[1]), h[2]);
        }
    }

    private static void after() {
        promise = 15;
        WoundTape x = even(1);
        tell(x, 3, "after 0 1 wants 99;after 0 1 wants 7;after 2 0 wants 4;");
        due("the last of several", x.after(0, 1), 7);
        due("after(1, 0)", x.after(1, 0), 0);
        due("after(2, 0)", x.after(2, 0), 4);
        due("after(2, 2)", x.after(2, 2), NONE);
        due("after(0, 3)", x.after(0, 3), NONE);
        due("after(-1, 0)", x.after(-1, 0), NONE);
    }

    private static void known() {
        promise = 16;
        WoundTape x = even(1);
        due("known(0)", x.known(0), 1);
        due("known(35)", x.known(35), 0);
        due("known(36)", x.known(36), NONE);
        due("known(-1)", x.known(-1), NONE);
    }

    private static void lawAt() {
        promise = 17;
        WoundTape x = new WoundTape();
        tell(x, 0, TAPE);
        due("as at first", x.lawAt(0, true, 1, 0), 2);
        due("full 19: 2", x.lawAt(7, true, 1, 0), 2);
        due("full 22: 3", x.lawAt(8, true, 1, 0), 3);
        due("full 99: 6", x.lawAt(35, true, 1, 0), 6);
        due("late", x.lawAt(35, true, 64, 1), 1);
        due("slip", x.lawAt(35, false, 0, 2), 0);
        due("h 65", x.lawAt(0, true, 65, 0), NONE);
        due("h -1", x.lawAt(0, true, -1, 0), NONE);
        due("what 3", x.lawAt(0, true, 1, 3), NONE);
        due("what -1", x.lawAt(0, true, 1, -1), NONE);
        due("place 36", x.lawAt(36, true, 1, 0), NONE);
        due("place -1", x.lawAt(-1, true, 1, 0), NONE);
        tell(x, 1, "speed 31;late 10;slip 1001;");
        due("at most", x.lawAt(0, true, 1, 0), 30);
        due("at most", x.lawAt(0, true, 1, 1), 9);
        due("at most", x.lawAt(0, true, 1, 2), 1000);
        tell(x, 1, "speed 0;late 0-1;slip 0-1;");
        due("at least", x.lawAt(0, true, 1, 0), 1);
        due("at least", x.lawAt(0, true, 1, 1), 0);
        due("at least", x.lawAt(0, true, 1, 2), 0);
        tell(x, 1, "speed 4 when at<3;speed 5 when on=0;speed 6;speed 7;");
        due("the first whose B is so", x.lawAt(2, false, 1, 0), 4);
        due("the first whose B is so", x.lawAt(3, false, 1, 0), 5);
        due("the first that has none", x.lawAt(3, true, 1, 0), 6);
        tell(x, 1, "speed 4 when at<3;");
        due("none of the lines is so", x.lawAt(35, true, 1, 0), 6);
    }

    private static int slip(WoundTape x, String e, int place, boolean on, int h) {
        tell(x, 1, "slip " + e + ";");
        return x.lawAt(place, on, h, 2);
    }

    private static void lawWords() {
        promise = 17;
        WoundTape x = new WoundTape();
        due("full of nothing", slip(x, "full", 0, true, 1), 0);
        tell(x, 0, TAPE);
        due("at", slip(x, "at", 17, true, 1), 17);
        due("full", slip(x, "full", 17, true, 1), 48);
        due("on", slip(x, "on", 17, true, 1), 1);
        due("back", slip(x, "on", 17, false, 1), 0);
        due("hold", slip(x, "hold", 17, true, 64), 64);
        due("song", slip(x, "song", 17, true, 1), 1);
        due("gap", slip(x, "song", 12, true, 1), 99);
        due("end", slip(x, "song", 35, true, 1), 99);
        due("side", slip(x, "side", 0, true, 1), 0);
        due("stops", slip(x, "stops", 0, true, 1), 0);
        x.turn();
        x.wind(true, 1);
        due("side", slip(x, "side", 0, true, 1), 1);
        due("stops", slip(x, "stops", 0, true, 1), 1);
        due("song", slip(x, "song", 8, true, 1), 2);
        due("ahead", slip(x, "2+3*4-1", 0, true, 1), 13);
        due("from the left", slip(x, "100-10-5", 0, true, 1), 85);
        due("from the left", slip(x, "100/7*7", 0, true, 1), 98);
        due("below 0 in between", slip(x, "at-7*1+100", 0, true, 1), 93);
        due("/ ahead of -", slip(x, "0-7/2+5", 0, true, 1), 2);
        // 4299140043 is 4172747 and once around.
        due("wraps", slip(x, "9999*9999*43/9999", 0, true, 1), 417);
        // 999700029999 is -1027349969 and 233 times around.
        due("wraps below 0", slip(x, "9999*9999*9999", 0, true, 1), 0);
        due("towards 0", slip(x, "9999*9999*9999/1000+9999*102+7451", 0, true, 1), 0);
        due("towards 0", slip(x, "9999*9999*9999/1000+9999*102+7452", 0, true, 1), 1);
        String[] so = {"1<2", "2=2", "3>2", "not 1>2", "(1=1)", "1=2 or 2=2", "1=1 and 2=2", "1=1 or 1=1 and 1=2",
            "not 1=2 and 1=1", "not(1=2 and 1=1)", "not not 1=1"};
        String[] not = {"2<2", "1=2", "2>2", "not 1=1", "1=2 or 2=1", "1=1 and 2=1", "(1=1 or 1=1)and 1=2",
            "not 1=2 and 1=2", "not(1=2 or 1=1)"};
        for (String b : so) {
            due(b, slip(x, "5 when " + b, 0, true, 1), 5);
        }
        for (String b : not) {
            due(b, slip(x, "5 when " + b, 0, true, 1), 0);
        }
    }

    private static void book() {
        promise = 18;
        WoundTape x = even(1);
        x.wind(true, 4);
        x.wind(false, 1);
        x.hear(2);
        x.turn();
        x.put(7);
        int[][] due = {{1, 0, 5, 15}, {2, 1, x.book(1, 2), x.book(1, 3)}, {2, 2, 2, x.book(1, 3) + 2},
            {2, 3, 0, 33 - x.book(1, 3)}, {2, 4, 7, 7}};
        for (int i = 0; i < 5; i++) {
            for (int w = 0; w < 4; w++) {
                due("book(" + i + ", " + w + ")", x.book(i, w), due[i][w]);
            }
        }
        due("went back by three a second", 15 - x.book(1, 3), 3 * x.book(1, 2));
        due("book(5, 0)", x.book(5, 0), NONE);
        due("book(-1, 0)", x.book(-1, 0), NONE);
        due("book(0, 4)", x.book(0, 4), NONE);
        due("book(0, -1)", x.book(0, -1), NONE);
        for (int i = 5; i < 152; i++) {
            x.put(i % 30);
        }
        due("look(9)", x.look(9), 150);
        due("book(149, 3)", x.book(149, 3), 149 % 30);
        due("book(150, 0)", x.book(150, 0), NONE);
        due("undo()", x.undo(), true);
        due("undo()", x.undo(), true);
        due("look(9)", x.look(9), 150);
        due("undo()", x.undo(), true);
        due("look(9)", x.look(9), 149);
    }

    private static void runs() {
        promise = 19;
        WoundTape x = even(4);
        due("runs(0, true, 4)", x.runs(0, true, 4), 12);
        due("runs(0, true, 0)", x.runs(0, true, 0), 0);
        due("runs(0, true, 64)", x.runs(0, true, 64), 35);
        due("runs(35, false, 11)", x.runs(35, false, 11), 2);
        due("runs(35, false, 12)", x.runs(35, false, 12), 0);
        due("runs(36, true, 1)", x.runs(36, true, 1), NONE);
        due("runs(-1, true, 1)", x.runs(-1, true, 1), NONE);
        due("runs(0, true, 65)", x.runs(0, true, 65), NONE);
        due("runs(0, true, -1)", x.runs(0, true, -1), NONE);
        tell(x, 1, "speed hold;late 2;slip 1000;");
        due("held so long", x.runs(0, true, 3), 11);
        due("held for no time", x.runs(9, false, 0), 7);
        due("nothing stays", x.look(10), 0);
        due("nothing stays", x.look(3), 0);
    }

    private static void soonest(WoundTape x, int place, int song, int... due) {
        for (int w = 0; w < 4; w++) {
            due("soonest(" + place + ", " + song + ", " + w + ")", x.soonest(place, song, w), due[w]);
        }
    }

    private static void soonest() {
        promise = 20;
        WoundTape x = even(0);
        soonest(x, 0, 1, 6, 5, 1, 0);
        soonest(x, 20, 1, 4, 2, 0, 1);
        soonest(x, 15, 1, 0, 0, 1, 0);
        soonest(x, 14, 1, 1, 0, 1, 0);
        soonest(x, 1, 1, 7, 4, 1, 2);
        x.set(1, 0);
        // Back by 2 seconds is one short: 3 and 1; by 1 it is 2 beyond: 2 and 0 and 4.
        soonest(x, 20, 1, 4, 2, 0, 1);
        // Back by 1 second is 1 beyond: 2 and 2; by 2 it is two short: 3 and 2.
        soonest(x, 19, 1, 4, 1, 0, -1);
        tell(x, 1, "speed 2;late 0;");
        soonest(x, 13, 1, 2, 0, 1, 0);
        x.set(0, 1);
        // Held 6, 7, 8: 12, 14, 16: 7 and 3, 8 and 1, 9 and 2; held 5, 6, 7: 6 and 5, 7 and 3, 8 and 1.
        soonest(x, 0, 1, 30, 6, 1, 3);
        x.set(1, 10);
        due("past", x.soonest(0, 1, 0), 30);
        for (int[] bad : new int[][] {{-1, 1, 0}, {36, 1, 0}, {0, 2, 0}, {0, 3, 0}, {0, -1, 0}, {0, 1, 4}, {0, 1, -1}}) {
            due("soonest", x.soonest(bad[0], bad[1], bad[2]), -1000);
        }
    }

    private static void turned() {
        promise = 21;
        WoundTape x = even(0);
        due("turned(2, 0)", x.turned(2, 0), 18);
        due("turned(2, 1)", x.turned(2, 1), 9);
        due("turned(2, 2)", x.turned(2, 2), 0);
        x.put(35);
        due("played on from 0", x.turned(2, 0), 4 + 1 + 8);
        due("turned(2, 1)", x.turned(2, 1), 2);
        due("turned(2, 2)", x.turned(2, 2), 1);
        x.set(0, 2);
        x.put(27);
        due("there already", x.turned(2, 0), 40);
        due("turned(2, 1)", x.turned(2, 1), 0);
        due("turned(2, 2)", x.turned(2, 2), 1);
        tell(x, 1, "speed 9 when side=1;speed 1;late 0;");
        x.set(0, 0);
        x.put(0);
        due("by the law of that side", x.turned(2, 1), 3);
        due("turned(0, 0)", x.turned(0, 0), NONE);
        due("turned(3, 0)", x.turned(3, 0), NONE);
        due("turned(-1, 0)", x.turned(-1, 0), NONE);
        due("turned(2, 3)", x.turned(2, 3), NONE);
        due("turned(2, -1)", x.turned(2, -1), NONE);
        x.turn();
        due("turned(2, 0)", x.turned(2, 0), NONE);
        due("turned(0, 1)", x.turned(0, 1), 0);
    }

    private static void unsure() {
        promise = 22;
        WoundTape x = even(1);
        x.wind(true, 4);
        due("unsure(0)", x.unsure(0), 3);
        due("unsure(1)", x.unsure(1), 3);
        due("unsure(2)", x.unsure(2), 1);
        due("unsure(3)", x.unsure(3), 0);
        due("unsure(4)", x.unsure(4), NONE);
        due("unsure(-1)", x.unsure(-1), NONE);
        x.put(35);
        due("unsure(1)", x.unsure(1), 0);
        due("unsure(2)", x.unsure(2), 0);
        due("unsure(3)", x.unsure(3), 1);
    }

    private static void tells(WoundTape x, int h, int on, int most) {
        due("tells(0)", x.tells(0), h);
        due("tells(1)", x.tells(1), on);
        due("tells(2)", x.tells(2), most);
    }

    private static void tells() {
        promise = 23;
        WoundTape x = even(1);
        // Held 3, 4, 5: 9, 12, 15; held less, two of them hear song 0.
        tells(x, 4, 1, 1);
        x.put(20);
        // Held 0, 1, 2 back: 20, 17, 14: twice song 1, once a gap; on: thrice song 1; nowhere three things.
        tells(x, 1, 0, 2);
        x.set(0, 0);
        tells(x, 1, 1, 1);
        due("tells(3)", x.tells(3), NONE);
        due("tells(-1)", x.tells(-1), NONE);
        WoundTape y = even(2);
        tell(y, 1, "speed 1;late 0;");
        y.put(9);
        // Held 0, 0, 1, 2, 3 on: 9, 9, 10, 11, 12: each counted, so 3 at most; back all 5.
        tells(y, 1, 1, 3);
        tell(y, 1, "speed 20 when side=1;speed 1;late 0;");
        y.set(0, 0);
        y.turned(2, 0);
        y.put(9);
        y.set(0, 1);
        // Held 0, 1, 2 on, by the law of this side: 9, 10, 11; of the other it were 9, 29, 35.
        tells(y, 1, 1, 2);
    }

    private static void card() {
        promise = 24;
        WoundTape x = new WoundTape();
        due("card(1, 0)", x.card(1, 0), 0);
        due("card(1, 1)", x.card(1, 1), 0);
        tell(x, 0, "song 10 wants 1;song 10 wants 2;song 10 wants 3;song 10 wants 4;turn;song 9 wants 9;song 9 wants 9;");
        int[][] due = {{1, 60, 4}, {2, 20, 12}, {3, 0, 14}, {4, 0, 15}, {6, 0, 15}};
        for (int[] d : due) {
            due("card(" + d[0] + ", 0)", x.card(d[0], 0), d[1]);
            due("card(" + d[0] + ", 1)", x.card(d[0], 1), d[2]);
        }
        x.turn();
        due("side 0 on either side", x.card(1, 1), 4);
        due("card(0, 0)", x.card(0, 0), NONE);
        due("card(7, 0)", x.card(7, 0), NONE);
        due("card(1, 2)", x.card(1, 2), NONE);
        due("card(1, -1)", x.card(1, -1), NONE);
        tell(x, 0, "song 5 wants 0;song 5 wants 0;song 5 wants 0;");
        due("the least of several", x.card(2, 1), 3);
        tell(x, 0, "gap 5;song 5 wants 2;");
        due("from 0, if none is marked", x.card(1, 0), 0);
    }

    private static void order() {
        promise = 25;
        WoundTape x = new WoundTape();
        due("order(0)", x.order(0), 0);
        tell(x, 0, "gap 3;song 10 wants 1;song 20 wants 2;gap 9;song 30 wants 3;turn;" + "song 2 wants 1;".repeat(9));
        due("the lesser ahead", x.order(10) * 100 + x.order(11) * 10 + x.order(12), 12);
        due("order(0)", x.order(0), 0);
        tell(x, 3, "after 0 2 wants 1;after 1 0 wants 1;");
        due("order(0)", x.order(0), 0);
        due("order", x.order(10) * 100 + x.order(11) * 10 + x.order(12), 102);
        tell(x, 3, "after 0 1 wants 1;after 1 0 wants 1;after 2 0 wants 1;");
        // 0 1 2: 0, 30, 60; 1 0 2: 30, 0, 40; 2 0 1: 0, 30, 0; 2 1 0: 30, 0, 20; 0 2 1: 30, 60, 40.
        due("order(0)", x.order(0), 30);
        due("order", x.order(10) * 100 + x.order(11) * 10 + x.order(12), 201);
        for (int w : new int[] {1, 9, 13, -1, Integer.MIN_VALUE, Integer.MAX_VALUE}) {
            due("order(" + w + ")", x.order(w), NONE);
        }
        x.turn();
        due("nine songs", x.order(0), NONE);
        due("nine songs", x.order(10), NONE);
        tell(x, 0, "song 2 wants 1;".repeat(8));
        due("eight songs", x.order(17), 7);
        due("eight songs", x.order(18), NONE);
    }

    private static void halves() {
        promise = 26;
        WoundTape x = new WoundTape();
        due("halves(0)", x.halves(0), 0);
        due("halves(1)", x.halves(1), 0);
        tell(x, 0, TAPE);
        due("halves(0)", x.halves(0), 5);
        due("10 and 15, or 20", x.halves(1), 2);
        tell(x, 0, "song 10 wants 1;song 20 wants 1;turn;song 30 wants 1;");
        due("halves(0)", x.halves(0), 0);
        due("the least of several", x.halves(1), 3);
        due("halves(2)", x.halves(2), NONE);
        due("halves(-1)", x.halves(-1), NONE);
        tell(x, 0, "song 5 wants 1;".repeat(12));
        due("twelve songs", x.halves(1), 63);
        tell(x, 0, "song 5 wants 1;".repeat(13));
        due("thirteen songs", x.halves(0), NONE);
        String full = "song 60 wants 1;song 60 wants 1;song 60 wants 1;song 20 wants 1;";
        tell(x, 0, full + "turn;" + full);
        due("both sides full", x.halves(0), 0);
        due("both sides full", x.halves(1), 15);
    }

    private static void worn() {
        promise = 27;
        WoundTape x = even(1);
        int[][] bad = {{36, 1}, {-2, 1}, {0, 0}, {0, 100}};
        for (int[] b : bad) {
            due("worn(" + b[0] + ", " + b[1] + ")", x.worn(b[0], b[1]), NONE);
        }
        due("worn(12, 5)", x.worn(12, 5), 1);
        due("worn(18, 99)", x.worn(18, 99), 2);
        due("worn(11, 7)", x.worn(11, 7), 3);
        due("worn(19, 7)", x.worn(19, 7), 4);
        due("worn(3, 1)", x.worn(3, 1), 5);
        due("look(14)", x.look(14), 5);
        promise = 28;
        due("sought(0)", x.sought(0), 1);
        due("sought(1)", x.sought(1), 104);
        due("sought(2)", x.sought(2), NONE);
        due("sought(3)", x.sought(3), NONE);
        due("sought(-1)", x.sought(-1), NONE);
        promise = 29;
        due("most()", x.most(), 1);
        x.turn();
        due("sought(2)", x.sought(2), 7);
        due("sought(0)", x.sought(0), NONE);
        due("most()", x.most(), 2);
        x.turn();
        promise = 27;
        for (int i = 6; i <= 12; i++) {
            due("worn(0, 20)", x.worn(0, 20), i);
        }
        due("thirteenth", x.worn(0, 1), NONE);
        promise = 29;
        due("most()", x.most(), 0);
        promise = 27;
        due("none", x.worn(-1, 0), 0);
        due("look(14)", x.look(14), 0);
        due("worn(35, 1)", x.worn(35, 1), 1);
        promise = 29;
        due("the first of several", x.most(), 0);
        due("no songs", new WoundTape().most(), NONE);
    }

    private static void rule() {
        promise = 30;
        WoundTape x = even(0);
        due("rule(0)", x.rule(0), 54);
        due("rule(1)", x.rule(1), 54);
        due("rule(3)", x.rule(3), 72);
        due("rule(14)", x.rule(14), 9 * (2 + 12));
        due("rule(15)", x.rule(15), 135);
        due("rule(30)", x.rule(30), 135);
        due("rule(31)", x.rule(31), NONE);
        due("rule(-1)", x.rule(-1), NONE);
        promise = 31;
        due("best()", x.best(), 0);
        x.put(20);
        promise = 30;
        // To song 0 back by 7: 8; to song 1 back by 2 to 14: 3 and 1.
        due("back", x.rule(0), 5 * 8 + 9 * 4);
        due("back", x.rule(2), 5 * 8 + 9 * (4 + 4));
        x.set(0, 1);
        x.put(0);
        // Held 4, 5, 6: 12, 15, 18: 5 and 3, 6, 7 and 10 and 6.
        due("with the thumb", x.rule(0), 9 * (8 + 6 + 23));
        // Held 3, 4, 5: 9, 12, 15: 4 and 6, 5 and 3, 6.
        due("with the thumb", x.rule(3), 9 * 24);
        promise = 31;
        due("best()", x.best(), 3);
        promise = 30;
        tell(x, 0, "gap 60;gap 60;gap 30;song 10 wants 2;");
        tell(x, 1, "speed 1;late 0;");
        x.set(0, 0);
        due("60, if none does", x.rule(0), 2 * (61 + 90));
        promise = 31;
        due("best()", new WoundTape().best(), 0);
        // 30 ahead it is there, and plays on; else it winds far beyond.
        tell(x, 0, "gap 30;song 20 wants 1;");
        tell(x, 1, "speed 30;late 9;");
        x.set(1, 99);
        due("best()", x.best(), 30);
        promise = 30;
        due("rule(30)", new WoundTape().rule(30), 0);
    }

    private static void goes() {
        promise = 32;
        WoundTape x = even(4);
        tell(x, 2, "on 2 hear 3 again 2(back 1)turn");
        int[] due = {1, 32, 18, 7};
        for (int w = 0; w < 4; w++) {
            due("goes(" + w + ")", x.goes(w), due[w]);
        }
        due("goes(4)", x.goes(4), NONE);
        due("goes(-1)", x.goes(-1), NONE);
        due("nothing stays", x.look(10) + x.look(3) + x.look(9) + x.look(6), 0);
        tell(x, 1, "speed 1+stops+5*side;late 0;");
        due("each winding is a stop", x.goes(1), 35);
        tell(x, 2, "hear 30 hear 30 turn on 1");
        due("not beyond", x.goes(1), 6);
        due("goes(2)", x.goes(2), 70);
        due("goes(3)", x.goes(3), 2);
    }

    private static void undo() {
        promise = 33;
        WoundTape x = even(1);
        due("undo()", x.undo(), false);
        for (int i = 0; i < 8; i++) {
            x.put(i);
        }
        due("look(15)", x.look(15), 6);
        for (int i = 6; i > 0; i--) {
            due("undo()", x.undo(), true);
            due("look(3)", x.look(3), i);
            due("look(15)", x.look(15), i - 1);
            due("look(9)", x.look(9), i + 1);
        }
        due("undo()", x.undo(), false);
        x.state(0);
        x.hear(4);
        x.wind(true, 4);
        x.turn();
        tell(x, 1, "speed 1;late 0;");
        tell(x, 3, "after 0 1 wants 1;");
        x.worn(1, 1);
        x.image(true);
        x.wind(true, 0);
        x.put(99);
        tell(x, 2, "?");
        tell(x, 0, "?");
        x.set(0, 9);
        due("look(15)", x.look(15), 3);
        due("undo()", x.undo(), true);
        due("look(2)", x.look(2), 0);
        due("unsure(0)", x.unsure(0), 3);
        due("undo()", x.undo(), true);
        due("look(10)", x.look(10), 0);
        due("look(4)", x.look(4), 4);
        due("look(5)", x.look(5), 4);
        due("look(6)", x.look(6), 0);
        due("unsure(0)", x.unsure(0), 1);
        due("the law stays", x.look(11), 2);
        due("after stays", x.look(13), 1);
        due("worn stays", x.look(14), 1);
        tell(x, 2, "turn");
        due("an evening told forgets", x.undo(), false);
        x.turn();
        tell(x, 0, TAPE);
        due("a tape told forgets", x.undo(), false);
        due("look(3)", x.look(3), 0);
    }

    private static void image() {
        promise = 34;
        WoundTape x = even(2);
        tell(x, 2, "turn on 3");
        tell(x, 3, "after 0 1 wants 4;");
        x.worn(4, 4);
        x.set(1, 33);
        x.wind(true, 3);
        int[] was = new int[15];
        for (int i = 0; i < 15; i++) {
            was[i] = x.look(i);
        }
        int known = x.unsure(0);
        int stood = x.book(0, 3);
        due("image(false)", x.image(false), false);
        due("image(true)", x.image(true), true);
        for (int round = 0; round < 2; round++) {
            x.undo();
            x.put(1);
            tell(x, 0, "song 9 wants 9;");
            tell(x, 1, "late 4;");
            x.worn(-1, 0);
            x.set(0, 0);
            x.set(1, 0);
            x.state(77);
            x.turn();
            tell(x, 0, "gap 1?");
            x.feed(0, 0, 0, 0, 0);
            due("image(false)", x.image(false), true);
            looks(x, was);
            due("known", x.unsure(0), known);
            due("nothing to undo", x.undo(), false);
            due("fault() stays", x.fault(1), 5);
            due("the bytes stay", x.end(20), true);
            due("after(0, 1)", x.after(0, 1), 4);
            due("song(2, 3)", x.song(2, 3), 2);
            due("at(1, 8)", x.at(1, 8), 2);
            due("sought(0)", x.sought(0) + x.worn(2, 1), 2);
            due("lawAt", x.lawAt(0, true, 1, 0), 3);
            due("goes(0)", x.goes(0), 1);
            due("book(0, 3)", x.book(0, 3), stood);
        }
    }

    private static void look() {
        promise = 35;
        WoundTape x = even(3);
        tell(x, 2, "turn again 3(hear 1)");
        tell(x, 3, "after 0 1 wants 4;after 0 1 wants 4;");
        x.worn(4, 4);
        x.worn(4, 4);
        x.set(1, 44);
        x.state(-5);
        x.put(6);
        x.hear(5);
        looks(x, 35, 3, 0, 11, 5, 5, 0, 3, 44, 2, -5, 2, 4, 2, 2, 2);
        x.turn();
        x.wind(true, 1);
        due("look(2)", x.look(2), 1);
        due("look(6)", x.look(6), 1);
        for (int w : new int[] {-1, 16, Integer.MIN_VALUE, Integer.MAX_VALUE}) {
            due("look(" + w + ")", x.look(w), NONE);
        }
    }
}
