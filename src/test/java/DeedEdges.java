/** Terms 1 to 4 and promises 1 to 8, 16 to 18 and 33 to 35: each sentence about a deed that names an edge. */
public final class DeedEdges {
    private static final int NONE = -1;

    public static void main(String[] args) {
        nothingOnIt();
        drawsWrap();
        stateTold();
        setBounds();
        thumbBounds();
        putPlaces();
        putKnowsThatAlone();
        windHolds();
        windThumb();
        windNoughtAtLeast();
        windThumbMost();
        windAsksThen();
        windNotBeyond();
        windSlipBelow();
        windSlipAskedAhead();
        windSlipOfNone();
        windLate();
        windLateCounted();
        counterGoesRound();
        secondsAndStops();
        windKnown();
        windKnownNoughtAtLeast();
        hearBounds();
        hearAtEnd();
        hearPlaceByPlace();
        hearCounter();
        turnOver();
        turnKnown();
        eveningGone();
        knownAsked();
        Check.finish("DeedEdges");
    }

    static int next(int state) {
        return 1664525 * state + 1013904223;
    }

    static int drawn(int state, int m) {
        return (int) (((next(state) & 0xffffffffL) >> 8) % m);
    }

    /** A STATE from which the DRAW of m is just that. */
    static int stateFor(int m, int due) {
        int state = 0;
        while (drawn(state, m) != due) {
            state++;
        }
        return state;
    }

    private static void wound(WoundTape x, boolean on, int h, int due) {
        Check.due("wind(" + on + ", " + h + ")", x.wind(on, h), due);
    }

    private static void heard(WoundTape x, int n, int due) {
        Check.due("hear(" + n + ")", x.hear(n), due);
    }

    private static void written(WoundTape x, int line, int... due) {
        for (int w = 0; w < due.length; w++) {
            Check.due("book(" + line + ", " + w + ")", x.book(line, w), due[w]);
        }
    }

    private static void nothingOnIt() {
        Check.sentence("1: A tape with nothing on it");
        WoundTape x = new WoundTape();
        int[] due = {0, 0, 0, 0, 0, 0, 0, 1, 10, 0, 0, 0, 0, 0, 0, 0};
        for (int w = 0; w < due.length; w++) {
            Check.looks(x, w, due[w]);
        }
        Check.knows(x, 0);
        Check.due("NONE", WoundTape.NONE, -1);
        Check.due("put(0)", x.put(0), true);
        Check.due("put(1)", x.put(1), false);
        heard(x, 1, 99);
        Check.knows(x, 0);
        Check.looks(x, 4, 0);
        Check.due("turn()", x.turn(), 0);
        Check.looks(x, 2, 1);
        Check.knows(x, 0);
        wound(x, true, 60, 0);
        wound(x, false, 60, 0);
        Check.knows(x, 0);
        Check.looks(x, 4, 0);
        Check.looks(x, 6, 2);
    }

    private static void drawsWrap() {
        Check.sentence("a DRAW: 1664525 times itself + 1013904223 (ints, which wrap), its highest 24 bits (without sign)");
        int signed = 0;
        for (int s : new int[] {0, 1, -1, 2, 3, 7, 99, Integer.MAX_VALUE, Integer.MIN_VALUE, 1013904223, -987654321}) {
            WoundTape x = Check.even(4);
            x.state(s);
            x.wind(true, 20);
            Check.due("STATE after one DRAW from " + s, x.look(10), next(s));
            Check.due("DRAW from " + s, x.book(0, 2), 20 - 4 + drawn(s, 9));
            signed += next(s) < 0 ? 1 : 0;
        }
        Check.due("some below 0, some not", signed > 1 && signed < 10, true);
    }

    private static void stateTold() {
        Check.sentence("2: STATE is told: what it was");
        WoundTape x = new WoundTape();
        Check.due("0 at first", x.state(Integer.MIN_VALUE), 0);
        Check.looks(x, 10, Integer.MIN_VALUE);
        Check.due("the least", x.state(Integer.MAX_VALUE), Integer.MIN_VALUE);
        Check.due("the greatest", x.state(-1), Integer.MAX_VALUE);
        Check.due("-1 is one, too", x.state(0), -1);
        Check.looks(x, 10, 0);
    }

    private static void setBounds() {
        Check.sentence("3: What 0 THUMB, 1 PAST: true; false if one can't be, or another what");
        WoundTape x = Check.even(1);
        x.put(4);
        int[][] bad = {{0, -1}, {0, 5}, {0, 99}, {1, -1}, {1, 100}, {2, 0}, {-1, 0}, {0, Integer.MAX_VALUE},
            {0, Integer.MIN_VALUE}, {1, Integer.MAX_VALUE}, {1, Integer.MIN_VALUE}, {Integer.MAX_VALUE, 1},
            {Integer.MIN_VALUE, 1}};
        String before = Check.seen(x);
        for (int[] b : bad) {
            Check.due("set(" + b[0] + ", " + b[1] + ")", x.set(b[0], b[1]), false);
        }
        Check.unchanged("a set that can't be", x, before);
        for (int past : new int[] {0, 99, 1, 98, 50}) {
            Check.due("set(1, " + past + ")", x.set(1, past), true);
            Check.looks(x, 8, past);
            Check.looks(x, 7, 1);
        }
    }

    private static void thumbBounds() {
        Check.sentence("1: THUMB 0 .. 4");
        for (int t = 0; t <= 4; t++) {
            WoundTape x = Check.even(t);
            Check.looks(x, 7, t);
            Check.looks(x, 8, 10);
            x.wind(true, 6);
            Check.due("so many it may be held", x.unsure(0), 2 * t + 1);
        }
    }

    private static void putPlaces() {
        Check.sentence("4: To PUT: true; false if there is no such place (0 .. L)");
        WoundTape x = Check.even(1);
        x.hear(4);
        String before = Check.seen(x);
        for (int p : new int[] {-1, 36, 200, 201, Integer.MAX_VALUE, Integer.MIN_VALUE}) {
            Check.due("put(" + p + ")", x.put(p), false);
        }
        Check.unchanged("a put that can't be", x, before);
        for (int p : new int[] {0, 35, 34, 1}) {
            Check.due("put(" + p + ")", x.put(p), true);
            Check.looks(x, 3, p);
        }
        Check.sentence("3: PUT (the place) in THE BOOK");
        written(x, 2, 0, 4, 35, 35);
        written(x, 1, 0, 4, 0, 0);
    }

    private static void putKnowsThatAlone() {
        Check.sentence("3: To PUT it at a place of this SIDE: KNOWN that alone; COUNTER 0");
        WoundTape x = Check.even(2);
        x.turn();
        x.wind(false, 5);
        Check.due("unsure before", x.unsure(0), 5);
        int seconds = x.look(5);
        Check.due("put(35)", x.put(35), true);
        Check.knows(x, 35);
        Check.looks(x, 4, 0);
        Check.looks(x, 2, 1);
        Check.looks(x, 5, seconds);
        Check.looks(x, 6, 1);
        Check.due("put(0)", x.put(0), true);
        Check.knows(x, 0);
    }

    private static void windHolds() {
        Check.sentence("5: NONE if h can't be (1 .. 60)");
        WoundTape x = Check.even(1);
        x.put(15);
        String before = Check.seen(x);
        for (int h : new int[] {0, -1, 61, 64, Integer.MAX_VALUE, Integer.MIN_VALUE}) {
            wound(x, true, h, NONE);
            wound(x, false, h, NONE);
        }
        Check.unchanged("a winding that can't be", x, before);
        x.set(0, 0);
        wound(x, true, 1, 18);
        wound(x, false, 1, 15);
        wound(x, true, 60, 35);
        wound(x, false, 60, 0);
        Check.looks(x, 5, 2 + 2 + 61 + 61);
        Check.sentence("5: where it STANDS then (0 is a place, and no NONE)");
        wound(x, false, 1, 0);
    }

    private static void windThumb() {
        Check.sentence("3: if THUMB is above 0, a DRAW of 2 THUMB + 1, less THUMB, is added to h");
        for (int t = 1; t <= 4; t++) {
            for (int d = 0; d <= 2 * t; d++) {
                WoundTape x = Check.made(Check.LONG_TAPE, "speed 1;late 0;", t);
                x.state(stateFor(2 * t + 1, d));
                wound(x, true, 10, 10 + d - t);
                Check.looks(x, 5, 11 + d - t);
                written(x, 0, 1, 0, 10 + d - t, 10 + d - t);
            }
        }
        Check.sentence("3: THUMB 0: no DRAW");
        WoundTape x = Check.even(0);
        x.state(77);
        wound(x, true, 2, 6);
        Check.looks(x, 10, 77);
    }

    private static void windNoughtAtLeast() {
        Check.sentence("3: a DRAW less THUMB is added to h (0 at least)");
        WoundTape x = Check.made(Check.TAPE, "speed 3;late 1;slip 1000;", 4);
        x.state(stateFor(9, 0));
        int state = x.look(10);
        wound(x, true, 1, 1);
        Check.looks(x, 5, 1);
        Check.looks(x, 6, 1);
        Check.looks(x, 4, 1);
        Check.due("one DRAW, of the THUMB", x.look(10), next(state));
        written(x, 0, 1, 0, 0, 1);
        x.state(stateFor(9, 0));
        wound(x, true, 4, 2);
        written(x, 1, 2, 0, 0, 2);
        x.state(stateFor(9, 0));
        wound(x, true, 5, 6);
        written(x, 2, 3, 0, 1, 6);
        x.state(stateFor(9, 3));
        wound(x, false, 1, 5);
        written(x, 3, 4, 1, 0, 5);
    }

    private static void windThumbMost() {
        Check.sentence("3: h 60 with a THUMB of 4 is held 64 at most");
        WoundTape x = Check.made(Check.LONG_TAPE, "speed hold-60;late 0;", 4);
        x.state(stateFor(9, 8));
        wound(x, true, 60, 200);
        Check.looks(x, 5, 65);
        written(x, 0, 1, 0, 64, 200);
        // Held 56 .. 61 by 1, 62 by 2, 63 by 3, 64 by 4.
        Check.knows(x, 56, 57, 58, 59, 60, 61, 124, 189, 200);
    }

    private static void windAsksThen() {
        Check.sentence("3: Second by second: speed (asked where it STANDS then) PLACES that way");
        WoundTape x = Check.made(Check.TAPE, "speed at+1;late 0;", 0);
        wound(x, true, 3, 7);
        wound(x, false, 1, 0);
        wound(x, true, 5, 31);
        // Back by 30 at most, though 32 were told.
        wound(x, false, 1, 1);
        wound(x, true, 1, 3);
        Check.sentence("2: hold: how many seconds are held (with the THUMB's)");
        WoundTape y = Check.made(Check.TAPE, "speed hold;late 0;", 2);
        y.state(stateFor(5, 4));
        wound(y, true, 3, 25);
        y.state(stateFor(5, 0));
        wound(y, false, 3, 24);
    }

    private static void windNotBeyond() {
        Check.sentence("3: PLACES that way (not beyond 0, L)");
        WoundTape x = Check.even(0);
        x.put(34);
        wound(x, true, 1, 35);
        Check.looks(x, 4, 1);
        wound(x, true, 9, 35);
        Check.looks(x, 4, 1);
        Check.looks(x, 5, 12);
        x.put(2);
        wound(x, false, 1, 0);
        Check.looks(x, 4, 998);
        wound(x, false, 2, 0);
        Check.looks(x, 4, 998);
        x.put(32);
        wound(x, true, 1, 35);
        x.put(3);
        wound(x, false, 1, 0);
        Check.looks(x, 4, 997);
    }

    private static void windSlipBelow() {
        Check.sentence("3: if slip is above 0, a DRAW of 1000: below slip COUNTER does not count this second");
        int[] slips = {1, 2, 500, 999, 1000};
        for (int slip : slips) {
            for (int d = slip - 1; d <= slip && d < 1000; d++) {
                WoundTape x = Check.made(Check.TAPE, "speed 3;late 0;slip " + slip + ";", 0);
                x.state(stateFor(1000, d));
                int state = x.look(10);
                wound(x, true, 1, 3);
                Check.looks(x, 4, d < slip ? 0 : 3);
                Check.looks(x, 10, next(state));
            }
        }
        Check.sentence("3: else by as many PLACES as it went");
        WoundTape x = Check.made(Check.TAPE, "speed 3;late 0;slip 1;", 0);
        x.put(34);
        x.state(stateFor(1000, 1));
        wound(x, true, 1, 35);
        Check.looks(x, 4, 1);
        x.put(1);
        x.state(stateFor(1000, 1));
        wound(x, false, 1, 0);
        Check.looks(x, 4, 999);
        x.put(35);
        x.state(5);
        wound(x, true, 3, 35);
        Check.due("a DRAW each second, at the end as well", x.look(10), next(next(next(5))));
    }

    private static void windSlipAskedAhead() {
        Check.sentence("3: slip (asked ahead of it)");
        WoundTape x = Check.made(Check.TAPE, "speed 3;late 0;slip 1000 when at=3;", 0);
        x.state(9);
        wound(x, true, 3, 9);
        Check.looks(x, 4, 6);
        Check.looks(x, 10, next(9));
        x.put(0);
        x.state(9);
        wound(x, true, 1, 3);
        Check.looks(x, 4, 3);
        Check.looks(x, 10, 9);
        Check.sentence("3: the THUMB's DRAW comes ahead of those of slips");
        WoundTape y = Check.made(Check.TAPE, "speed 3;late 0;slip 500;", 1);
        int state = stateFor(3, 2);
        y.state(state);
        int counter = 0;
        for (int s = next(state), i = 0; i < 5; i++, s = next(s)) {
            counter += drawn(s, 1000) < 500 ? 0 : 3;
        }
        wound(y, true, 4, 15);
        Check.looks(y, 4, counter);
    }

    private static void windSlipOfNone() {
        Check.sentence("3: slip 0 (or held to it): no DRAW");
        for (String slip : new String[] {"", "slip 0;", "slip 0-5;", "slip 7 when at>99;", "slip on-1;"}) {
            WoundTape x = Check.made(Check.TAPE, "speed 3;late 2;" + slip, 0);
            x.state(123);
            wound(x, true, 4, 14);
            Check.looks(x, 10, 123);
            Check.looks(x, 4, 14);
        }
    }

    private static void windLate() {
        Check.sentence("3: Then late PLACES more that way (asked at the end; not beyond)");
        WoundTape x = Check.made(Check.TAPE, "speed 3;late 5 when at=6;late 7 when at=9;late 1 when at=0;late 2;", 0);
        wound(x, true, 2, 11);
        x.put(12);
        wound(x, false, 1, 2);
        x.put(0);
        wound(x, false, 1, 0);
        x.put(30);
        wound(x, true, 1, 35);
        x.put(34);
        wound(x, true, 1, 35);
        Check.looks(x, 4, 1);
        x.put(4);
        wound(x, false, 1, 0);
        Check.looks(x, 4, 996);
    }

    private static void windLateCounted() {
        Check.sentence("3: COUNTER counts them (what is late), though each second slips");
        WoundTape x = Check.made(Check.TAPE, "speed 3;late 9;slip 1000;", 0);
        wound(x, true, 2, 15);
        Check.looks(x, 4, 9);
        wound(x, false, 1, 3);
        Check.looks(x, 4, 0);
        wound(x, false, 1, 0);
        Check.looks(x, 4, 0);
        x.put(33);
        wound(x, true, 1, 35);
        Check.looks(x, 4, 0);
        x.put(30);
        wound(x, true, 1, 35);
        Check.looks(x, 4, 2);
    }

    private static void counterGoesRound() {
        Check.sentence("1: COUNTER 0 .. 999 (it goes round)");
        WoundTape x = Check.made(Check.LONG_TAPE, "speed 30;late 0;slip 1000 when on=0;", 0);
        int[] counts = {200, 400, 600, 800, 0, 200};
        for (int c : counts) {
            wound(x, true, 60, 200);
            Check.looks(x, 4, c);
            wound(x, false, 60, 0);
            Check.looks(x, 4, c);
        }
        WoundTape y = Check.made(Check.LONG_TAPE, "speed 1;late 0;", 0);
        y.put(1);
        wound(y, false, 1, 0);
        Check.looks(y, 4, 999);
        wound(y, true, 1, 1);
        Check.looks(y, 4, 0);
        wound(y, false, 1, 0);
        heard(y, 1, 98);
        Check.looks(y, 4, 0);
        wound(y, false, 1, 0);
        heard(y, 3, 98);
        Check.looks(y, 4, 2);
    }

    private static void secondsAndStops() {
        Check.sentence("3: SECONDS are what was held and 1 more; STOPS one more");
        WoundTape x = Check.made(Check.TAPE, "speed 1+stops;late 0;", 0);
        wound(x, true, 2, 2);
        Check.looks(x, 5, 3);
        Check.looks(x, 6, 1);
        wound(x, true, 2, 6);
        Check.looks(x, 5, 6);
        Check.looks(x, 6, 2);
        x.hear(1);
        x.turn();
        x.put(0);
        Check.looks(x, 5, 15);
        Check.due("by windings alone", x.look(6), 2);
        Check.due("stops in THE LAW", x.lawAt(0, true, 1, 0), 3);
        written(x, 0, 1, 0, 2, 2);
        written(x, 1, 2, 0, 2, 6);
        written(x, 2, 2, 2, 1, 7);
    }

    private static void windKnown() {
        Check.sentence("3: KNOWN: each place with each THUMB RUNS so");
        WoundTape x = Check.even(1);
        wound(x, true, 4, 15);
        Check.knows(x, 9, 12, 15);
        x.state(0);
        wound(x, false, 2, 6);
        // From 9, 12, 15 back by 3, 6, 9.
        Check.knows(x, 0, 3, 6, 9, 12);
        wound(x, false, 60, 0);
        Check.knows(x, 0);
        wound(x, true, 60, 35);
        Check.knows(x, 35);
        Check.sentence("3: KNOWN by what is held, not by slips");
        WoundTape y = Check.made(Check.TAPE, "speed 3;late 0;slip 1000;", 0);
        wound(y, true, 2, 6);
        Check.knows(y, 6);
        WoundTape z = Check.made(Check.TAPE, "speed hold;late 0;", 1);
        wound(z, true, 2, 9);
        Check.knows(z, 1, 4, 9);
    }

    private static void windKnownNoughtAtLeast() {
        Check.sentence("3: KNOWN (h less THUMB .. h and THUMB, 0 at least)");
        WoundTape x = Check.even(4);
        x.wind(true, 1);
        Check.knows(x, 0, 3, 6, 9, 12, 15);
        WoundTape y = Check.made(Check.TAPE, "speed 3;late 2;", 3);
        y.put(20);
        y.wind(false, 2);
        Check.knows(y, 18, 15, 12, 9, 6, 3);
        WoundTape z = Check.made(Check.TAPE, "speed 3;late 5+hold;", 2);
        z.wind(true, 1);
        // Held 0 late by 5, 1 by 6, 2 by 7, 3 by 8.
        Check.knows(z, 5, 9, 13, 17);
    }

    private static void hearBounds() {
        Check.sentence("6: To HEAR n (1 .. 30): NONE if n can't be");
        WoundTape x = Check.even(1);
        x.put(3);
        String before = Check.seen(x);
        for (int n : new int[] {0, -1, 31, Integer.MAX_VALUE, Integer.MIN_VALUE}) {
            heard(x, n, NONE);
        }
        Check.unchanged("a hearing that can't be", x, before);
        heard(x, 1, 0);
        Check.looks(x, 3, 4);
        heard(x, 30, 1);
        Check.looks(x, 3, 34);
        Check.looks(x, 5, 31);
        Check.looks(x, 6, 0);
        Check.looks(x, 10, 0);
        written(x, 1, 0, 2, 1, 4);
        written(x, 2, 0, 2, 30, 34);
        Check.sentence("6: what is heard at last (SONG, 98, 99)");
        x.put(9);
        heard(x, 1, 0);
        heard(x, 5, 98);
        heard(x, 1, 1);
        x.put(9);
        heard(x, 7, 1);
        x.put(34);
        heard(x, 1, 1);
        heard(x, 1, 99);
    }

    private static void hearAtEnd() {
        Check.sentence("3: then it, and each of them, is one further (at the end: not); COUNTER by what it went");
        WoundTape x = Check.even(1);
        x.put(34);
        heard(x, 3, 99);
        Check.looks(x, 3, 35);
        Check.looks(x, 4, 1);
        Check.looks(x, 5, 3);
        Check.knows(x, 35);
        heard(x, 30, 99);
        Check.looks(x, 3, 35);
        Check.looks(x, 4, 1);
        Check.looks(x, 5, 33);
        Check.knows(x, 35);
        Check.sentence("3: KNOWN at the end and ahead of it: at the end 99 is heard");
        WoundTape y = Check.made(Check.TAPE, "speed 1;late 0;", 1);
        y.put(33);
        y.state(stateFor(3, 1));
        wound(y, true, 1, 34);
        Check.knows(y, 33, 34, 35);
        heard(y, 1, 1);
        Check.knows(y, 34, 35);
        heard(y, 1, 99);
        Check.knows(y, 35);
    }

    private static void hearPlaceByPlace() {
        Check.sentence("3: To HEAR n: PLACE by PLACE; KNOWN are only those at which the same is heard");
        WoundTape x = Check.made(Check.TAPE, "speed 1;late 0;", 1);
        heard(x, 1, 0);
        Check.knows(x, 1);
        x.put(6);
        x.state(stateFor(3, 1));
        wound(x, true, 1, 7);
        Check.knows(x, 6, 7, 8);
        heard(x, 2, 0);
        Check.knows(x, 8, 9, 10);
        heard(x, 1, 0);
        Check.knows(x, 9, 10);
        heard(x, 1, 98);
        Check.knows(x, 11);
        WoundTape y = Check.made(Check.TAPE, "speed 1;late 0;", 2);
        y.put(8);
        y.state(stateFor(5, 2));
        wound(y, true, 2, 10);
        Check.knows(y, 8, 9, 10, 11, 12);
        heard(y, 4, 98);
        // 12 comes to song 1 by the fourth place; 8 and 9 heard song 0 at once.
        Check.knows(y, 14, 15);
    }

    private static void hearCounter() {
        Check.sentence("3: COUNTER by what it went, without slips or DRAWS; SECONDS n more");
        WoundTape x = Check.made(Check.TAPE, "speed 3;late 0;slip 1000;", 3);
        x.state(66);
        heard(x, 5, 0);
        Check.looks(x, 4, 5);
        Check.looks(x, 5, 5);
        Check.looks(x, 10, 66);
    }

    private static void turnOver() {
        Check.sentence("3: To TURN: the other SIDE, L less where it STANDS; SECONDS 8 more; COUNTER is 0");
        WoundTape x = Check.even(1);
        Check.due("turn() at 0", x.turn(), 35);
        Check.looks(x, 2, 1);
        Check.looks(x, 3, 35);
        Check.due("turn() at L", x.turn(), 0);
        Check.looks(x, 2, 0);
        heard(x, 9, 0);
        Check.due("turn() at 9", x.turn(), 26);
        Check.looks(x, 4, 0);
        Check.looks(x, 5, 8 + 8 + 9 + 8);
        Check.looks(x, 6, 0);
        Check.looks(x, 10, 0);
        written(x, 3, 0, 3, 0, 26);
        Check.due("the longer side's L for both", x.at(1, 26), 98);
        Check.due("back again", x.turn(), 9);
    }

    private static void turnKnown() {
        Check.sentence("3: To TURN: KNOWN likewise");
        WoundTape x = Check.even(1);
        Check.due("turn()", x.turn(), 35);
        Check.knows(x, 35);
        Check.due("turn()", x.turn(), 0);
        wound(x, true, 2, 9);
        Check.knows(x, 3, 6, 9);
        Check.due("turn()", x.turn(), 26);
        Check.knows(x, 32, 29, 26);
        // At 26 a gap: 29 and 32, too.
        heard(x, 1, 98);
        Check.knows(x, 33, 30, 27);
        WoundTape y = Check.made("gap 4;", "speed 1;late 0;", 1);
        y.put(2);
        y.state(stateFor(3, 1));
        wound(y, false, 1, 1);
        Check.knows(y, 0, 1, 2);
        Check.due("turn()", y.turn(), 3);
        Check.knows(y, 2, 3, 4);
    }

    private static void eveningGone() {
        Check.sentence("8: EVENING is gone through: how many deeds");
        WoundTape x = Check.even(2);
        Check.due("none told", x.evening(), 0);
        Check.looks(x, 9, 0);
        Check.looks(x, 5, 0);
        Check.tell(x, 2, "on 4 again 2(hear 3 turn) back 60");
        WoundTape y = Check.even(2);
        Check.due("evening()", x.evening(), 6);
        y.wind(true, 4);
        y.hear(3);
        y.turn();
        y.hear(3);
        y.turn();
        y.wind(false, 60);
        for (int w = 2; w <= 10; w++) {
            Check.looks(x, w, y.look(w));
        }
        for (int i = 0; i < 6; i++) {
            written(x, i, y.book(i, 0), y.book(i, 1), y.book(i, 2), y.book(i, 3));
        }
        for (int p = 0; p <= 35; p++) {
            Check.due("known(" + p + ")", x.known(p), y.known(p));
        }
        Check.due("once more", x.evening(), 6);
        Check.looks(x, 9, 12);
        Check.looks(x, 6, 4);
        Check.sentence("8: of sixty deeds each is gone through");
        WoundTape z = Check.even(0);
        Check.tell(z, 2, "again 6(again 9(hear 1)) again 6(turn)");
        Check.due("evening()", z.evening(), 60);
        Check.looks(z, 9, 60);
        Check.looks(z, 5, 54 + 48);
    }

    private static void knownAsked() {
        Check.sentence("16: Whether a place is KNOWN: 1, 0; NONE if there is none such (0 .. L)");
        WoundTape x = Check.even(1);
        for (int p : new int[] {-1, 36, 200, 201, Integer.MAX_VALUE, Integer.MIN_VALUE}) {
            Check.due("known(" + p + ")", x.known(p), NONE);
        }
        Check.due("known(0)", x.known(0), 1);
        Check.due("known(1)", x.known(1), 0);
        Check.due("known(35)", x.known(35), 0);
        x.put(35);
        Check.due("known(35)", x.known(35), 1);
        Check.due("known(0)", x.known(0), 0);
        x.turn();
        Check.due("of this SIDE", x.known(0) * 10 + x.known(35), 10);
    }
}
