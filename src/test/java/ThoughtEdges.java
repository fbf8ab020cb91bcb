/** Term 4 and promises 19 to 32: each sentence about what is reckoned in thought that names an edge. */
public final class ThoughtEdges {
    private static final int NONE = -1;

    public static void main(String[] args) {
        runsAsked();
        runsExactly();
        runsOfThisSide();
        soonestAsked();
        soonestPlayingOn();
        soonestHolds();
        soonestNoughtAtLeast();
        soonestPast();
        soonestFirst();
        soonestBefore();
        soonestReckoned();
        turnedAsked();
        turnedThere();
        turnedMore();
        unsureAsked();
        unsureNext();
        tellsAsked();
        tellsHolds();
        tellsFirst();
        tellsCounted();
        cardAsked();
        cardFewer();
        cardNoneAhead();
        cardFirst();
        cardOfFourteen();
        orderAsked();
        orderMost();
        orderEitherWay();
        orderFirst();
        halvesAsked();
        halvesLong();
        halvesFirst();
        wornAsked();
        wornTwelve();
        soughtWithin();
        soughtAsked();
        mostFirst();
        ruleAsked();
        ruleFromG();
        ruleBehind();
        ruleSixty();
        ruleAll();
        bestLeast();
        goesAsked();
        goesJust();
        nothingStays();
        Check.finish("ThoughtEdges");
    }

    private static void soonest(WoundTape x, int place, int song, int... due) {
        for (int w = 0; w < due.length; w++) {
            Check.due("soonest(" + place + ", " + song + ", " + w + ")", x.soonest(place, song, w), due[w]);
        }
    }

    private static void turned(WoundTape x, int song, int... due) {
        for (int w = 0; w < due.length; w++) {
            Check.due("turned(" + song + ", " + w + ")", x.turned(song, w), due[w]);
        }
    }

    private static void tells(WoundTape x, int... due) {
        for (int w = 0; w < due.length; w++) {
            Check.due("tells(" + w + ")", x.tells(w), due[w]);
        }
    }

    private static void runs(WoundTape x, int place, boolean on, int h, int due) {
        Check.due("runs(" + place + ", " + on + ", " + h + ")", x.runs(place, on, h), due);
    }

    // ---- RUNS

    private static void runsAsked() {
        Check.sentence("19: RUNS (0 .. 64); NONE if one can't be");
        WoundTape x = Check.even(1);
        int[][] bad = {{-1, 1}, {36, 1}, {0, -1}, {0, 65}, {200, 1}, {201, 1}, {Integer.MAX_VALUE, 1},
            {Integer.MIN_VALUE, 1}, {0, Integer.MAX_VALUE}, {0, Integer.MIN_VALUE}, {36, 65}};
        for (int[] b : bad) {
            runs(x, b[0], true, b[1], NONE);
            runs(x, b[0], false, b[1], NONE);
        }
        runs(x, 35, true, 0, 35);
        runs(x, 0, true, 0, 0);
        runs(x, 0, false, 64, 0);
        runs(x, 35, false, 64, 0);
        runs(x, 35, false, 1, 32);
        WoundTape none = new WoundTape();
        runs(none, 0, true, 64, 0);
        runs(none, 0, false, 0, 0);
        runs(none, 1, false, 0, NONE);
    }

    private static void runsExactly() {
        Check.sentence("4: RUNS, held exactly h (0 .. 64): no THUMB, no DRAWS, no slips");
        WoundTape x = Check.made(Check.LONG_TAPE, "speed 1;late 2;slip 1000;", 4);
        x.state(55);
        for (int h : new int[] {0, 1, 2, 60, 61, 63, 64}) {
            runs(x, 10, true, h, 12 + h);
            runs(x, 100, false, h, 98 - h);
        }
        runs(x, 199, true, 0, 200);
        runs(x, 1, false, 0, 0);
        Check.tell(x, 1, "speed hold;late 0;");
        runs(x, 0, true, 9, 81);
        runs(x, 200, false, 10, 100);
        Check.tell(x, 1, "speed 1;late hold-60;");
        runs(x, 0, true, 64, 68);
        Check.tell(x, 1, "speed at+1;late 3 when at=7;late 0;");
        runs(x, 0, true, 3, 10);
    }

    private static void runsOfThisSide() {
        Check.sentence("4: RUNS from a place of this SIDE");
        WoundTape x = Check.made(Check.TAPE, "speed 2 when side=0 and song=0;speed 5 when song=2;speed 1;late 0;", 1);
        runs(x, 8, true, 2, 11);
        runs(x, 6, true, 2, 10);
        x.turn();
        runs(x, 7, true, 2, 13);
        runs(x, 22, true, 2, 28);
        runs(x, 9, false, 3, 2);
    }

    // ---- SOONEST

    /** By how much the sentence of SOONEST comes for that winding, reckoned from RUNS alone. */
    private static int windingSum(WoundTape x, int place, boolean on, int h, int begin) {
        int thumb = x.look(7);
        int sum = 0;
        for (int held = h - thumb; held <= h + thumb; held++) {
            int real = Math.max(held, 0);
            int stands = x.runs(place, on, real);
            sum += real + 1;
            sum += stands <= begin ? begin - stands : x.look(8) + 2 * (stands - begin);
        }
        return sum;
    }

    /** SOONEST with a fresh object for each h, as no object may be asked too often. */
    private static int[] reckoned(String tape, String law, int thumb, int past, int place, int song) {
        int begin = Check.made(tape, law, thumb).song(song, 1);
        int[] best = {Integer.MAX_VALUE, 0, 0, 0};
        if (place <= begin) {
            best = new int[] {(begin - place) * (2 * thumb + 1), 0, 1, 0};
        }
        for (int h = 1; h <= 60; h++) {
            WoundTape x = Check.made(tape, law, thumb);
            x.set(1, past);
            for (int on = 1; on >= 0; on--) {
                int sum = windingSum(x, place, on == 1, h, begin);
                if (sum < best[0]) {
                    best = new int[] {sum, h, on, begin - x.runs(place, on == 1, h)};
                }
            }
        }
        return best;
    }

    private static void soonestAsked() {
        Check.sentence("20: NONE - 999 if one can't be (no such SONG on this SIDE), or another what");
        WoundTape x = Check.even(1);
        int[][] bad = {{-1, 1, 0}, {36, 1, 0}, {0, 2, 0}, {0, 3, 0}, {0, -1, 0}, {0, 1, -1}, {0, 1, 4},
            {Integer.MAX_VALUE, 1, 0}, {Integer.MIN_VALUE, 1, 0}, {0, Integer.MAX_VALUE, 0}, {0, Integer.MIN_VALUE, 0},
            {0, 1, Integer.MAX_VALUE}, {0, 1, Integer.MIN_VALUE}, {0, 2, 3}, {36, 1, 3}};
        for (int[] b : bad) {
            Check.due("soonest(" + b[0] + ", " + b[1] + ", " + b[2] + ")", x.soonest(b[0], b[1], b[2]), -1000);
        }
        soonest(x, 35, 0, reckoned(Check.TAPE, "speed 3;late 0;", 1, 10, 35, 0));
        x.turn();
        Check.due("a SONG of the other SIDE", x.soonest(0, 0, 0), -1000);
        Check.due("a SONG of the other SIDE", x.soonest(0, 1, 3), -1000);
        Check.due("a SONG of this SIDE", x.soonest(8, 2, 0), 0);
        Check.due("of none", new WoundTape().soonest(0, 0, 0), -1000);
    }

    private static void soonestPlayingOn() {
        Check.sentence("4: of playing on (if the place is not behind the beginning) the PLACES to it, times 2 THUMB and 1");
        for (int t = 0; t <= 4; t++) {
            WoundTape x = Check.even(t);
            soonest(x, 15, 1, 0, 0, 1, 0);
            soonest(x, 14, 1, 2 * t + 1, 0, 1, 0);
            soonest(x, 0, 0, 0, 0, 1, 0);
            Check.due("behind it: none", x.soonest(16, 1, 1) > 0, true);
            Check.due("behind it: none", x.soonest(16, 1, 0) > 0, true);
        }
    }

    private static void soonestHolds() {
        Check.sentence("4: of winding on or back h 1 .. 60");
        WoundTape x = Check.made("gap 60;gap 60;gap 30;song 10 wants 1;gap 40;", "speed 2;late 0;", 0);
        soonest(x, 0, 0, 61 + 30, 60, 1, 30);
        soonest(x, 29, 0, 61 + 1, 60, 1, 1);
        soonest(x, 28, 0, 61 + 2, 60, 1, 2);
        soonest(x, 32, 0, 60, 59, 1, 0);
        soonest(x, 152, 0, 2, 1, 0, 0);
        WoundTape y = Check.made("song 10 wants 1;gap 60;gap 60;gap 60;", "speed 2;late 0;", 0);
        soonest(y, 120, 0, 61, 60, 0, 0);
        // 10 and twice 10 more; at 60 the beginning is 10 ahead still.
        soonest(y, 130, 0, 61 + 10 + 20, 60, 0, -10);
        WoundTape z = Check.made("song 10 wants 1;gap 60;gap 60;gap 60;", "speed 3;late 0;", 4);
        soonest(z, 190, 0, reckoned("song 10 wants 1;gap 60;gap 60;gap 60;", "speed 3;late 0;", 4, 10, 190, 0));
    }

    private static void soonestNoughtAtLeast() {
        Check.sentence("4: the sum over all THUMBS (h less THUMB .. h and THUMB, 0 at least)");
        WoundTape x = Check.made(Check.TAPE, "speed 30;late 0;", 1);
        // Back by 0, 1, 2 seconds from 16: 1 and 10 and 2; 2; 3; so much ahead: 15 and 15.
        x.set(1, 0);
        soonest(x, 1, 0, 1 + 2 + 2 + 3, 1, 0, 0);
        x.set(1, 99);
        // Held 1, 2, 3 all are at 0: 2 and 3 and 4.
        soonest(x, 1, 0, 9, 2, 0, 0);
        WoundTape y = Check.made(Check.TAPE, "speed 30;late 0;", 4);
        y.set(1, 0);
        // Held 0 four times: 1 and 2 each; held 1 .. 5: 2 .. 6.
        soonest(y, 1, 0, 4 * 3 + 20, 1, 0, 0);
        y.set(1, 99);
        soonest(y, 1, 0, 2 + 3 + 4 + 5 + 6 + 7 + 8 + 9 + 10, 5, 0, 0);
    }

    private static void soonestPast() {
        Check.sentence("4: if it RUNS beyond it, PAST and twice the PLACES beyond; at the beginning it is not beyond");
        WoundTape x = Check.made(Check.TAPE, "speed 1 when on=1;speed 5;late 0;", 0);
        x.set(1, 99);
        // From 20 back by one second: just at 15.
        soonest(x, 20, 1, 2, 1, 0, 0);
        // From 21: one beyond: 2 and 99 and 2; by two seconds four short: 3 and 4.
        soonest(x, 21, 1, 7, 2, 0, 4);
        x.set(1, 0);
        soonest(x, 21, 1, 4, 1, 0, -1);
        soonest(x, 22, 1, 6, 1, 0, -2);
        x.set(1, 1);
        soonest(x, 22, 1, 6, 2, 0, 3);
        x.set(1, 3);
        soonest(x, 21, 1, 7, 1, 0, -1);
        x.set(1, 4);
        soonest(x, 21, 1, 7, 2, 0, 4);
    }

    private static void soonestFirst() {
        Check.sentence("4: of several the first: playing on, then h upwards, on ahead of back");
        WoundTape x = Check.made(Check.TAPE, "speed 2;late 0;", 0);
        soonest(x, 13, 1, 2, 0, 1, 0);
        soonest(x, 12, 1, 3, 0, 1, 0);
        soonest(x, 11, 1, 3, 2, 1, 0);
        WoundTape y = Check.made(Check.TAPE, "speed 7 when hold=1;speed 3;late 0;", 0);
        // From 20 back by one second 2 short: 2 and 2; by two 1 short: 3 and 1.
        soonest(y, 20, 1, 4, 1, 0, 2);
        WoundTape z = Check.made("gap 9;song 1 wants 1;", "speed 4;late 0;", 0);
        z.set(1, 1);
        // At the end: on by one second 2 and 1 and 2; back 2 and 3.
        soonest(z, 10, 0, 5, 1, 1, -1);
        z.set(1, 2);
        soonest(z, 10, 0, 5, 1, 0, 3);
        z.set(1, 0);
        soonest(z, 10, 0, 4, 1, 1, -1);
        Check.sentence("4: h upwards goes ahead of on and back");
        WoundTape b = Check.made("gap 9;song 1 wants 1;", "speed 4 when on=0;speed 1;late 0;", 0);
        b.set(1, 0);
        // On by one second stays at the end: 4; back by one: 5.
        soonest(b, 10, 0, 4, 1, 1, -1);
    }

    private static void soonestBefore() {
        Check.sentence("4: BEFORE: the place that it RUNS to with just h (below 0: beyond); playing on: 0");
        WoundTape x = Check.made(Check.TAPE, "speed 2;late 0;", 1);
        soonest(x, 1, 1, reckoned(Check.TAPE, "speed 2;late 0;", 1, 10, 1, 1));
        soonest(x, 15, 1, 0, 0, 1, 0);
        soonest(x, 14, 1, 3, 0, 1, 0);
        WoundTape y = Check.made(Check.TAPE, "speed 5;late 0;", 0);
        y.set(1, 0);
        soonest(y, 17, 1, 5, 1, 0, 3);
        soonest(y, 21, 1, 4, 1, 0, -1);
    }

    private static void soonestReckoned() {
        Check.sentence("4: SOONEST, each sum of it reckoned anew from RUNS");
        String tape = "gap 20;song 30 wants 4;gap 2;song 60 wants 5;song 60 wants 9;";
        String law = "speed 1+full/20 when on=1;speed 6-full/25;late on+hold/20;slip 100;";
        int[][] asked = {{0, 0, 0, 1}, {1, 10, 0, 2}, {2, 99, 172, 0}, {3, 0, 100, 1}, {4, 4, 60, 2}, {4, 99, 113, 1},
            {4, 0, 3, 0}};
        for (int[] a : asked) {
            WoundTape x = Check.made(tape, law, a[0]);
            x.set(1, a[1]);
            soonest(x, a[2], a[3], reckoned(tape, law, a[0], a[1], a[2], a[3]));
        }
    }

    // ---- TURNED

    private static void turnedAsked() {
        Check.sentence("21: NONE if one can't be (no such SONG on the other SIDE), or another what");
        WoundTape x = Check.even(1);
        int[][] bad = {{0, 0}, {1, 0}, {3, 0}, {-1, 0}, {2, -1}, {2, 3}, {Integer.MAX_VALUE, 0}, {Integer.MIN_VALUE, 0},
            {2, Integer.MAX_VALUE}, {2, Integer.MIN_VALUE}};
        for (int[] b : bad) {
            Check.due("turned(" + b[0] + ", " + b[1] + ")", x.turned(b[0], b[1]), NONE);
        }
        x.turn();
        Check.due("turned(2, 0)", x.turned(2, 0), NONE);
        Check.due("turned(1, 0) on the other SIDE", x.turned(1, 0) > 0, true);
        Check.due("of none", new WoundTape().turned(0, 0), NONE);
    }

    private static void turnedThere() {
        Check.sentence("4: TURNED: from where it would STAND there (L less where it STANDS)");
        WoundTape x = Check.even(0);
        x.put(27);
        turned(x, 2, 8, 0, 1);
        x.put(28);
        turned(x, 2, 9, 0, 1);
        x.put(26);
        // There at 9, one beyond: back by one second two short: 2 and 2.
        turned(x, 2, 8 + 4, 1, 0);
        x.put(35);
        // There at 0: on by two seconds two short: 3 and 2.
        turned(x, 2, 8 + 5, 2, 1);
        x.put(0);
        // There at 35: back by nine seconds just to 8.
        turned(x, 2, 8 + 10, 9, 0);
        Check.sentence("4: TURNED by THE LAW of that SIDE");
        Check.tell(x, 1, "speed 9 when side=1 and stops=0;speed 1;late 0;");
        turned(x, 2, 8 + 4, 3, 0);
        Check.looks(x, 2, 0);
        Check.looks(x, 3, 0);
    }

    private static void turnedMore() {
        Check.sentence("4: TURNED: and 8 times (2 THUMB and 1) more");
        for (int t = 0; t <= 4; t++) {
            WoundTape x = Check.even(t);
            x.put(27);
            turned(x, 2, 8 * (2 * t + 1), 0, 1);
            x.put(3);
            WoundTape y = Check.even(t);
            y.turn();
            turned(x, 2, y.soonest(32, 2, 0) + 8 * (2 * t + 1), y.soonest(32, 2, 1), y.soonest(32, 2, 2));
        }
    }

    // ---- UNSURE and TELLS

    private static void unsureAsked() {
        Check.sentence("22: NONE for another what");
        WoundTape x = Check.even(1);
        for (int w : new int[] {-1, 4, Integer.MAX_VALUE, Integer.MIN_VALUE}) {
            Check.due("unsure(" + w + ")", x.unsure(w), NONE);
        }
    }

    private static void unsure(WoundTape x, int... due) {
        for (int w = 0; w < due.length; w++) {
            Check.due("unsure(" + w + ")", x.unsure(w), due[w]);
        }
    }

    private static void unsureNext() {
        Check.sentence("4: UNSURE: how many KNOWN are; SONGS that may be heard next (a set); whether a GAP, the end");
        unsure(new WoundTape(), 1, 0, 0, 1);
        WoundTape x = Check.even(1);
        unsure(x, 1, 1, 0, 0);
        x.put(10);
        unsure(x, 1, 0, 1, 0);
        x.put(34);
        unsure(x, 1, 2, 0, 0);
        x.put(35);
        unsure(x, 1, 0, 0, 1);
        x.put(31);
        x.wind(true, 1);
        unsure(x, 3, 2, 0, 1);
        x.put(0);
        x.wind(true, 4);
        unsure(x, 3, 3, 1, 0);
        x.turn();
        // 26 and 23 in a gap, 20 in song 2.
        unsure(x, 3, 4, 1, 0);
        x.put(8);
        unsure(x, 1, 4, 0, 0);
        Check.tell(x, 0, "song 1 wants 1;".repeat(14));
        x.put(13);
        unsure(x, 1, 1 << 13, 0, 0);
        x.put(14);
        unsure(x, 1, 0, 0, 1);
    }

    private static void tellsAsked() {
        Check.sentence("23: NONE for another what");
        WoundTape x = Check.even(1);
        for (int w : new int[] {-1, 3, Integer.MAX_VALUE, Integer.MIN_VALUE}) {
            Check.due("tells(" + w + ")", x.tells(w), NONE);
        }
        tells(new WoundTape(), 1, 1, 3);
    }

    private static void tellsHolds() {
        Check.sentence("4: TELLS: winding h 1 .. 20");
        String tape = "song 60 wants 1;song 20 wants 1;gap 20;";
        WoundTape x = Check.made(tape, "speed 3 when hold=20;speed 4 when hold=21;speed 1;late 0;", 1);
        tells(x, 20, 1, 1);
        x = Check.made(tape, "speed 3 when hold=21;speed 4 when hold=22;speed 1;late 0;", 1);
        // At 21 each would hear another; at 20 two of three hear song 0.
        tells(x, 20, 1, 2);
        x = Check.made(tape, "speed 3 when hold=22;speed 4 when hold=23;speed 1;late 0;", 1);
        tells(x, 1, 1, 3);
        x = Check.made(tape, "speed 3 when hold=24;speed 1;late 0;", 4);
        // Held 24 by 20 and THUMB 4 alone.
        tells(x, 20, 1, 8);
        x = Check.made(tape, "speed 1;late 0;", 0);
        // Of one place each h tells as much; the least is 1, not 0.
        tells(x, 1, 1, 1);
    }

    private static void tellsFirst() {
        Check.sentence("4: the winding for which that is least; of several the least h, on ahead of back");
        WoundTape x = Check.made(Check.TAPE, "speed 3;late 0;", 0);
        tells(x, 1, 1, 1);
        x.set(0, 1);
        x.put(12);
        // On 0 .. 2: a gap, song 1, song 1; back a gap and song 0 twice: as few, and so on.
        tells(x, 1, 1, 2);
        x.put(20);
        // On: thrice song 1; back 20, 17, 14: twice.
        tells(x, 1, 0, 2);
        x.put(23);
        // Back 0 .. 2 in song 1; 1 .. 3: 20, 17, 14; on 35 is the end: by 3, 4, 5 seconds 32, 35, 35.
        tells(x, 2, 0, 2);
        x.put(26);
        // On by 1, 2, 3: 29, 32, 35; back by 2 seconds at most 17.
        tells(x, 2, 1, 2);
    }

    private static void tellsCounted() {
        Check.sentence("4: each KNOWN place with each THUMB RUNS to an end (each counted)");
        WoundTape x = Check.made(Check.TAPE, "speed 1;late 0;", 1);
        x.put(9);
        x.state(DeedEdges.stateFor(3, 1));
        x.wind(true, 1);
        Check.knows(x, 9, 10, 11);
        int least = 9;
        int[] due = {0, 0, 0};
        for (int h = 1; h <= 20; h++) {
            for (int on = 1; on >= 0; on--) {
                int[] heard = new int[100];
                int most = 0;
                for (int place = 9; place <= 11; place++) {
                    for (int held = h - 1; held <= h + 1; held++) {
                        most = Math.max(most, ++heard[x.at(0, x.runs(place, on == 1, held))]);
                    }
                }
                if (most < least) {
                    least = most;
                    due = new int[] {h, on, most};
                }
            }
        }
        tells(x, due);
        Check.sentence("4: TELLS with each THUMB (0 seconds at least)");
        WoundTape y = Check.made("song 2 wants 1;gap 1;", "speed 1;late 0;", 2);
        // On by 1: held 0, 0, 1, 2, 3: song 0 thrice, a gap, the end; by 2: 0 .. 4: twice song 0, a gap, twice the end.
        tells(y, 2, 1, 2);
        y.set(0, 4);
        // On by 1: held 0 four times, 1 .. 5: song 0 five times; by 2: 0 thrice, 1 .. 6: four, one, four.
        tells(y, 2, 1, 4);
        y.put(3);
        // Back by 1: held 0 four times: the end; 1: a gap; 2, 3, 4, 5: song 0.
        tells(y, 1, 0, 4);
        Check.sentence("4: TELLS on this SIDE, whatever was reckoned ahead of it");
        WoundTape z = Check.made(Check.TAPE, "speed 20 when side=1;speed 1;late 0;", 1);
        z.put(9);
        z.turned(2, 0);
        // Held 0, 1, 2 on: 9, 10, 11; by THE LAW of the other SIDE 9, 29, 35.
        tells(z, 1, 1, 2);
    }

    // ---- CARD

    private static void card(WoundTape x, int k, int sum, int set) {
        Check.due("card(" + k + ", 0)", x.card(k, 0), sum);
        Check.due("card(" + k + ", 1)", x.card(k, 1), set);
    }

    private static void cardAsked() {
        Check.sentence("24: k (1 .. 6): NONE if k can't be, or another what");
        WoundTape x = Check.even(1);
        for (int k : new int[] {0, 7, -1, Integer.MAX_VALUE, Integer.MIN_VALUE}) {
            card(x, k, NONE, NONE);
        }
        for (int w : new int[] {-1, 2, Integer.MAX_VALUE, Integer.MIN_VALUE}) {
            Check.due("card(1, " + w + ")", x.card(1, w), NONE);
        }
        card(x, 1, 0, 2);
        card(x, 6, 0, 3);
        x.turn();
        Check.sentence("4: CARD of SONGS of SIDE 0, on whichever SIDE it STANDS");
        card(x, 1, 0, 2);
    }

    private static void cardFewer() {
        Check.sentence("4: fewer SONGS than k: all");
        for (int k = 1; k <= 6; k++) {
            card(new WoundTape(), k, 0, 0);
            WoundTape x = Check.made("gap 3;song 2 wants 9;song 2 wants 9;turn;song 9 wants 9;", "", 1);
            card(x, k, k == 1 ? 18 : 0, k == 1 ? 1 : 3);
        }
        WoundTape x = Check.made("gap 3;" + "song 5 wants 9;".repeat(6), "", 1);
        card(x, 6, 0, 63);
        card(x, 5, 27, 62);
        x = Check.made("turn;song 9 wants 9;", "", 1);
        card(x, 1, 0, 0);
    }

    private static void cardNoneAhead() {
        Check.sentence("4: the PLACES from the nearest marked beginning at or ahead of it (none: from 0)");
        WoundTape x = Check.made("gap 10;song 10 wants 1;song 10 wants 2;song 10 wants 3;", "", 1);
        // 0: 0 and 20 and 60; 1: 10 and 0 and 30; 2: 10 and 40 and 0.
        card(x, 1, 40, 2);
        // 0 and 1: 30; 0 and 2: 20; 1 and 2: 10.
        card(x, 2, 10, 6);
        card(x, 3, 0, 7);
        x = Check.made("gap 60;song 1 wants 99;song 1 wants 0;", "", 1);
        card(x, 1, 0, 1);
        x = Check.made("gap 60;song 1 wants 0;song 1 wants 0;song 60 wants 99;", "", 1);
        card(x, 1, 0, 4);
    }

    private static void cardFirst() {
        Check.sentence("4: the set (of several the least)");
        WoundTape x = Check.made("song 5 wants 0;song 5 wants 0;song 5 wants 0;song 5 wants 0;", "", 1);
        card(x, 1, 0, 1);
        card(x, 2, 0, 3);
        card(x, 3, 0, 7);
        x = Check.made("gap 5;song 5 wants 2;song 5 wants 1;", "", 1);
        // 0: 5; 1: 10.
        card(x, 1, 5, 1);
        x = Check.made("gap 5;song 5 wants 1;song 5 wants 1;", "", 1);
        card(x, 1, 5, 1);
        x = Check.made("song 5 wants 9;song 5 wants 1;song 5 wants 1;", "", 1);
        // 0: 5 and 10; 1: 5; 2: 5.
        card(x, 1, 5, 2);
    }

    private static void cardOfFourteen() {
        Check.sentence("4: CARD of all fourteen SONGS");
        WoundTape x = Check.made("song 9 wants 1;".repeat(14), "", 1);
        // Six marked and 0 cut fourteen into seven runs of two: one PLACE of 9 each.
        card(x, 6, 63, 0x1554);
        card(x, 1, 9 * (21 + 21), 1 << 7);
    }

    // ---- ORDER and HALVES

    private static void order(WoundTape x, int sum, int... songs) {
        Check.due("order(0)", x.order(0), sum);
        for (int i = 0; i < songs.length; i++) {
            Check.due("order(" + (10 + i) + ")", x.order(10 + i), songs[i]);
        }
        Check.due("order(" + (10 + songs.length) + ")", x.order(10 + songs.length), NONE);
    }

    private static void orderAsked() {
        Check.sentence("25: NONE if there are more than 8 SONGS on this SIDE, none such, or another what");
        WoundTape x = Check.even(1);
        for (int w : new int[] {-1, 1, 2, 9, 12, 17, 18, Integer.MAX_VALUE, Integer.MIN_VALUE, Integer.MIN_VALUE + 9}) {
            Check.due("order(" + w + ")", x.order(w), NONE);
        }
        order(x, 0, 0, 1);
        x.turn();
        order(x, 0, 2);
        order(new WoundTape(), 0);
        order(Check.made("gap 9;turn;song 9 wants 9;", "", 1), 0);
    }

    private static void orderMost() {
        Check.sentence("4: ORDER: SONGS of this SIDE, 8 at most");
        WoundTape x = Check.made("song 2 wants 1;".repeat(8) + "turn;" + "song 3 wants 1;".repeat(6), "", 1);
        order(x, 0, 0, 1, 2, 3, 4, 5, 6, 7);
        Check.tell(x, 3, "after 0 7 wants 1;after 7 1 wants 1;after 8 13 wants 1;after 9 13 wants 1;");
        order(x, 0, 0, 7, 1, 2, 3, 4, 5, 6);
        x.turn();
        // 13 may stand behind one of both alone: behind the other are 3 PLACES, or, ahead of it, 6.
        order(x, 3, 8, 9, 13, 10, 11, 12);
        WoundTape y = Check.made("song 2 wants 1;".repeat(9) + "turn;" + "song 3 wants 1;".repeat(5), "", 1);
        order(y, NONE);
        Check.due("order(17)", y.order(17), NONE);
        y.turn();
        order(y, 0, 9, 10, 11, 12, 13);
    }

    private static void orderEitherWay() {
        Check.sentence("4: AFTER's N from a to b times PLACES between the end of a and the beginning of b (either way)");
        WoundTape x = Check.made("song 10 wants 1;gap 9;song 20 wants 1;", "", 1);
        Check.tell(x, 3, "after 0 1 wants 5;");
        order(x, 0, 0, 1);
        Check.tell(x, 3, "after 1 0 wants 5;");
        order(x, 0, 1, 0);
        // 0 1: back from 30 to 0; 1 0: from 30 to 0, too.
        Check.tell(x, 3, "after 1 0 wants 5;after 0 1 wants 5;");
        order(x, 150, 0, 1);
        Check.tell(x, 3, "after 1 0 wants 5;after 0 1 wants 4;");
        order(x, 120, 1, 0);
        Check.tell(x, 3, "after 1 0 wants 4;after 0 1 wants 5;");
        order(x, 120, 0, 1);
        Check.sentence("4: without GAPS, and AFTER of the other SIDE's SONGS is left out");
        WoundTape y = Check.made("gap 60;song 3 wants 1;gap 60;song 4 wants 1;gap 50;song 5 wants 1;turn;song 9 wants 1;", "", 1);
        Check.tell(y, 3, "after 0 2 wants 2;after 2 1 wants 3;after 1 0 wants 7;after 0 3 wants 99;after 3 1 wants 99;");
        // 0 1 2: 8, 27, 49; 0 2 1: 0, 0, 84; 1 0 2: 0, 36, 0; 1 2 0: 24, 27, 35; 2 0 1: 16, 9, 49; 2 1 0: 24, 0, 0.
        order(y, 24, 2, 1, 0);
        WoundTape z = Check.made("song 2 wants 1;song 3 wants 1;turn;song 4 wants 1;song 5 wants 1;", "", 1);
        Check.tell(z, 3, "after 0 2 wants 9;after 0 3 wants 9;after 1 2 wants 9;after 1 3 wants 9;after 2 0 wants 9;"
            + "after 2 1 wants 9;after 3 0 wants 9;after 3 1 wants 9;");
        order(z, 0, 0, 1);
        z.turn();
        order(z, 0, 2, 3);
    }

    private static void orderFirst() {
        Check.sentence("4: of several the first (the lesser SONG ahead)");
        WoundTape x = Check.made("song 5 wants 1;song 5 wants 1;song 5 wants 1;song 5 wants 1;", "", 1);
        order(x, 0, 0, 1, 2, 3);
        Check.tell(x, 3, "after 2 1 wants 1;");
        order(x, 0, 0, 2, 1, 3);
        Check.tell(x, 3, "after 3 0 wants 1;");
        order(x, 0, 1, 2, 3, 0);
        Check.tell(x, 3, "after 0 1 wants 0;after 3 0 wants 1;after 1 0 wants 1;");
        // 5 at least: 3 1 0 leaves 3 behind 1 by 5; 1 3 0 as well.
        order(x, 5, 1, 3, 0, 2);
    }

    private static void halves(WoundTape x, int difference, int set) {
        Check.due("halves(0)", x.halves(0), difference);
        Check.due("halves(1)", x.halves(1), set);
    }

    private static void halvesAsked() {
        Check.sentence("26: NONE if there are more than 12 SONGS, or another what");
        WoundTape x = Check.even(1);
        for (int w : new int[] {-1, 2, Integer.MAX_VALUE, Integer.MIN_VALUE}) {
            Check.due("halves(" + w + ")", x.halves(w), NONE);
        }
        halves(new WoundTape(), 0, 0);
        halves(Check.made("song 5 wants 1;".repeat(12), "", 1), 0, 63);
        halves(Check.made("song 5 wants 1;".repeat(6) + "turn;" + "song 5 wants 1;".repeat(6), "", 1), 0, 63);
        halves(Check.made("song 5 wants 1;".repeat(13), "", 1), NONE, NONE);
        halves(Check.made("song 5 wants 1;".repeat(6) + "turn;" + "song 5 wants 1;".repeat(7), "", 1), NONE, NONE);
        halves(Check.made("song 5 wants 1;".repeat(14), "", 1), NONE, NONE);
        halves(Check.made("gap 9;song 7 wants 1;", "", 1), 7, 0);
    }

    private static void halvesLong() {
        Check.sentence("4: to lay all SONGS on two SIDES, no one longer than 200");
        String side = "song 60 wants 1;song 60 wants 1;song 60 wants 1;";
        halves(Check.made(side + "song 20 wants 1;turn;" + side + "song 20 wants 1;", "", 1), 0, 15);
        halves(Check.made(side + "song 20 wants 1;turn;" + side + "song 19 wants 1;", "", 1), 1, 15);
        halves(Check.made(side + "turn;" + side, "", 1), 0, 7);
        halves(Check.made(side, "", 1), 60, 1);
        halves(Check.made("turn;" + side, "", 1), 60, 1);
    }

    private static void halvesFirst() {
        Check.sentence("4: the least difference of both; those on SIDE 0 (a set; of several the least)");
        halves(Check.made("song 10 wants 1;song 20 wants 1;song 30 wants 1;", "", 1), 0, 3);
        halves(Check.made("song 30 wants 1;song 20 wants 1;song 10 wants 1;", "", 1), 0, 1);
        halves(Check.made("song 1 wants 1;song 1 wants 1;", "", 1), 0, 1);
        halves(Check.made("song 9 wants 1;song 2 wants 1;", "", 1), 7, 1);
        halves(Check.made("song 2 wants 1;song 9 wants 1;", "", 1), 7, 1);
        halves(Check.made("song 7 wants 1;song 5 wants 1;song 4 wants 1;turn;song 3 wants 1;", "", 1), 1, 6);
    }

    // ---- WORN, SOUGHT, MOST

    private static void wornAsked() {
        Check.sentence("27: NONE if one can't be (0 .. L; 1 .. 99)");
        WoundTape x = Check.even(1);
        int[][] bad = {{36, 1}, {-2, 1}, {0, 0}, {0, 100}, {0, -1}, {35, 100}, {Integer.MAX_VALUE, 1},
            {Integer.MIN_VALUE, 1}, {0, Integer.MAX_VALUE}, {0, Integer.MIN_VALUE}};
        for (int[] b : bad) {
            Check.due("worn(" + b[0] + ", " + b[1] + ")", x.worn(b[0], b[1]), NONE);
        }
        Check.looks(x, 14, 0);
        Check.due("worn(0, 1)", x.worn(0, 1), 1);
        Check.due("worn(35, 99)", x.worn(35, 99), 2);
        Check.due("sought(0)", x.sought(0), 1);
        Check.sentence("27: WORN (place NONE: none is then): how many");
        Check.due("worn(NONE, 5)", x.worn(NONE, 5), 0);
        Check.looks(x, 14, 0);
        Check.due("sought(0)", x.sought(0), 0);
        Check.due("worn(0, 2)", x.worn(0, 2), 1);
        Check.due("sought(0)", x.sought(0), 2);
        Check.due("worn(NONE, 0)", x.worn(NONE, 0), 0);
        Check.due("worn(NONE, 1000)", x.worn(NONE, 1000), 0);
        WoundTape none = new WoundTape();
        Check.due("at L 0", none.worn(0, 9), 1);
        Check.due("beyond L 0", none.worn(1, 9), NONE);
    }

    private static void wornTwelve() {
        Check.sentence("27: NONE if there are twelve");
        WoundTape x = Check.even(1);
        for (int i = 1; i <= 12; i++) {
            Check.due("worn(" + (i + 11) + ", " + i + ")", x.worn(i + 11, i), i);
        }
        Check.due("the thirteenth", x.worn(0, 1), NONE);
        Check.looks(x, 14, 12);
        // 12 to 18 by 1 to 7.
        Check.due("sought(1)", x.sought(1), 28);
        Check.due("sought(0)", x.sought(0), 0);
        Check.due("worn(NONE, 1)", x.worn(NONE, 1), 0);
        Check.due("again", x.worn(0, 1), 1);
    }

    private static void soughtWithin() {
        Check.sentence("4: SOUGHT: the sum of wear within 3 PLACES of its beginning");
        for (int p = 9; p <= 21; p++) {
            WoundTape x = Check.even(1);
            x.worn(p, 7);
            Check.due("sought(1) by " + p, x.sought(1), p >= 12 && p <= 18 ? 7 : 0);
        }
        for (int p = 0; p <= 5; p++) {
            WoundTape x = Check.even(1);
            x.worn(p, 99);
            x.worn(p, 1);
            Check.due("sought(0) by " + p, x.sought(0), p <= 3 ? 100 : 0);
        }
        WoundTape x = Check.made("gap 2;song 2 wants 1;song 2 wants 1;", "", 1);
        x.worn(3, 5);
        x.worn(5, 1);
        x.worn(0, 8);
        Check.due("of both", x.sought(0) * 100 + x.sought(1), 1406);
    }

    private static void soughtAsked() {
        Check.sentence("28: SOUGHT of a SONG of this SIDE; NONE if there is none such");
        WoundTape x = Check.even(1);
        for (int s : new int[] {-1, 2, 3, 14, Integer.MAX_VALUE, Integer.MIN_VALUE}) {
            Check.due("sought(" + s + ")", x.sought(s), NONE);
        }
        x.turn();
        for (int s : new int[] {-1, 0, 1, 3}) {
            Check.due("sought(" + s + ")", x.sought(s), NONE);
        }
        Check.due("sought(2)", x.sought(2), 0);
        Check.due("of none", new WoundTape().sought(0), NONE);
    }

    private static void mostFirst() {
        Check.sentence("4: MOST sought: the SONG with the greatest such sum (of several the first)");
        WoundTape x = Check.made("song 9 wants 1;song 9 wants 1;song 9 wants 1;turn;song 9 wants 1;song 9 wants 1;", "", 1);
        Check.due("none is worn", x.most(), 0);
        x.worn(18, 1);
        Check.due("most()", x.most(), 2);
        x.worn(9, 1);
        Check.due("the first of two", x.most(), 1);
        x.worn(18, 1);
        Check.due("most()", x.most(), 2);
        x.worn(0, 2);
        Check.due("the first of two", x.most(), 0);
        x.turn();
        Check.due("of this SIDE", x.most(), 3);
        x.worn(10, 3);
        Check.due("of this SIDE", x.most(), 4);
        Check.sentence("29: NONE without SONGS on this SIDE");
        Check.due("of none", new WoundTape().most(), NONE);
        WoundTape y = Check.made("gap 9;turn;song 9 wants 1;", "", 1);
        Check.due("of the other SIDE alone", y.most(), NONE);
        y.turn();
        Check.due("of this SIDE", y.most(), 0);
    }

    // ---- RULE, BEST

    private static void ruleAsked() {
        Check.sentence("30: RULE of b (0 .. 30); NONE if b can't be");
        WoundTape x = Check.even(1);
        for (int b : new int[] {-1, 31, Integer.MAX_VALUE, Integer.MIN_VALUE}) {
            Check.due("rule(" + b + ")", x.rule(b), NONE);
        }
        Check.due("rule(30)", x.rule(30), 9 * 15 * 3);
        Check.due("without SONGS on this SIDE", Check.made("turn;song 9 wants 9;", "", 1).rule(0), 0);
        Check.due("without SONGS", new WoundTape().rule(30), 0);
    }

    private static void ruleFromG() {
        Check.sentence("4: from g up to the beginning: playing on; g being its beginning less b (0 at least)");
        WoundTape x = Check.made("gap 30;song 9 wants 1;", "speed 4;late 0;", 0);
        x.put(30);
        Check.due("at the beginning", x.rule(0), 0);
        x.put(29);
        Check.due("ahead of g: on, one second: 3 beyond", x.rule(0), 2 + 10 + 6);
        Check.due("at g", x.rule(1), 1);
        x.put(20);
        Check.due("at g", x.rule(10), 10);
        Check.due("beyond g", x.rule(11), 10);
        // To 21 or beyond: 24: 2 and 6; to 22, too; to 25: 28.
        Check.due("ahead of g", x.rule(9), 2 + 6);
        Check.due("RUNS to g", x.rule(6), 2 + 6);
        Check.due("or beyond it", x.rule(5), 3 + 2);
        x.put(0);
        Check.due("g 0", x.rule(30), 30);
        Check.due("g 1", x.rule(29), 2 + 26);
        WoundTape y = Check.made("gap 5;song 9 wants 1;", "speed 1;late 0;", 0);
        Check.due("0 at least", y.rule(6), 5);
        Check.due("0 at least", y.rule(30), 5);
        y.put(7);
        // Back to 0: by seven seconds; to 4 by three.
        Check.due("0 at least, behind", y.rule(30), 8 + 5);
        Check.due("to g", y.rule(1), 4 + 1);
    }

    private static void ruleBehind() {
        Check.sentence("4: behind the beginning: back, the least h by which it RUNS to g or ahead of it");
        WoundTape x = Check.made("gap 30;song 20 wants 1;", "speed 4;late 0;", 0);
        x.put(31);
        Check.due("one behind: 27", x.rule(0), 2 + 3);
        Check.due("rule(3): 27 is g", x.rule(3), 2 + 3);
        Check.due("rule(4): 23", x.rule(4), 3 + 7);
        x.put(34);
        Check.due("just to the beginning", x.rule(0), 2);
        Check.due("rule(1): 26", x.rule(1), 3 + 4);
        Check.sentence("4: the sum that SOONEST reckons for that, over all THUMBS");
        x.set(0, 1);
        // Held 0, 1, 2: 34: 1 and 10 and 8; 30: 2; 26: 3 and 4.
        Check.due("with the THUMB", x.rule(0), 19 + 2 + 7);
        x.put(0);
        // On by 8: held 7, 8, 9: 28: 8 and 2; 32: 9 and 10 and 4; 36: 10 and 10 and 12.
        Check.due("with the THUMB", x.rule(0), 10 + 23 + 32);
        x.put(29);
        Check.due("playing on is times 3", x.rule(1), 3);
        Check.sentence("4: the least h is 1 at least");
        WoundTape y = Check.made("gap 30;song 20 wants 1;", "speed 4;late 9;", 0);
        y.put(25);
        // 25 and 4 and 9 are 38, 8 beyond.
        Check.due("on by one second", y.rule(0), 2 + 10 + 16);
    }

    private static void ruleSixty() {
        Check.sentence("4: the least h (60, if none does)");
        WoundTape x = Check.made("gap 60;gap 60;song 9 wants 2;", "speed 1;late 0;", 0);
        Check.due("none does", x.rule(0), 2 * (61 + 60));
        x.put(59);
        Check.due("none does", x.rule(0), 2 * (61 + 1));
        x.put(60);
        Check.due("60 just does", x.rule(0), 2 * 61);
        x.put(61);
        Check.due("59", x.rule(0), 2 * 60);
        WoundTape y = Check.made("song 9 wants 2;gap 60;gap 60;", "speed 1;late 0;", 0);
        y.put(129);
        Check.due("none does, back", y.rule(0), 2 * (61 + 10 + 2 * 69));
        y.put(61);
        Check.due("none does, back", y.rule(0), 2 * (61 + 10 + 2));
        y.put(60);
        Check.due("60 just does, back", y.rule(30), 2 * 61);
        y.put(59);
        Check.due("59, back", y.rule(30), 2 * 60);
    }

    private static void ruleAll() {
        Check.sentence("4: RULE: to each SONG of this SIDE WANTED times the sum; all added (a long)");
        WoundTape x = Check.made("song 9 wants 0;song 9 wants 3;song 9 wants 5;turn;gap 5;song 9 wants 7;", "speed 3;late 0;", 0);
        x.put(9);
        // To song 0 nothing is WANTED; to song 1 it is there; to song 2 by three seconds.
        Check.due("rule(0)", x.rule(0), 5 * 4);
        x.put(10);
        Check.due("rule(0)", x.rule(0), 3 * (2 + 2) + 5 * (4 + 10 + 2));
        x.turn();
        // At 17; back by four seconds to 5.
        Check.due("of this SIDE", x.rule(0), 7 * 5);
        WoundTape y = Check.made("song 10 wants 99;".repeat(14), "speed 1;late 0;", 4);
        y.set(1, 99);
        y.put(140);
        long sum = 0;
        for (int s = 0; s < 14; s++) {
            int h = Math.min(60, 140 - 10 * s);
            sum += 99 * windingSum(y, 140, false, h, 10 * s);
        }
        Check.due("a great sum", y.rule(0), sum);
    }

    private static void bestLeast() {
        Check.sentence("4: BEST b: by which that is least; of several the least");
        Check.due("nothing to seek", new WoundTape().best(), 0);
        String[] laws = {"speed 3;late 0;", "speed 30;late 9;", "speed 2;late 5;", "speed 1;late 0;", "speed 7;late 1;"};
        for (String law : laws) {
            for (int thumb = 0; thumb <= 4; thumb += 2) {
                for (int place = 0; place <= 35; place += 7) {
                    WoundTape x = Check.made(Check.TAPE, law, thumb);
                    x.put(place);
                    int best = 0;
                    for (int b = 1; b <= 30; b++) {
                        best = x.rule(b) < x.rule(best) ? b : best;
                    }
                    Check.due("best() from " + place + " by " + law, x.best(), best);
                }
            }
        }
        WoundTape x = Check.made("gap 30;song 20 wants 1;", "speed 30;late 9;", 0);
        x.set(1, 99);
        Check.due("30 is one, too", x.best(), 30);
        x = Check.made("gap 31;song 20 wants 1;", "speed 30;late 9;", 0);
        x.set(1, 99);
        Check.due("31 is none", x.best(), 0);
        Check.sentence("4: BEST from where it STANDS, whatever was reckoned ahead of it");
        x = Check.made("gap 60;gap 60;song 9 wants 1;turn;gap 40;song 9 wants 1;", "speed 9;late 4;", 1);
        x.put(50);
        int due = x.best();
        Check.due("best() reckoned from RULE", x.rule(due) < x.rule(0) || due == 0, true);
        x.rule(0);
        x.soonest(3, 0, 0);
        Check.due("behind SOONEST", x.best(), due);
        x.turned(1, 0);
        Check.due("behind TURNED", x.best(), due);
        WoundTape y = Check.made("gap 30;song 20 wants 1;", "speed 30;late 9;", 0);
        y.set(1, 99);
        y.soonest(30, 0, 0);
        Check.due("behind SOONEST from elsewhere", y.best(), 30);
    }

    // ---- GOES, and all of it

    private static void goes(WoundTape x, int... due) {
        for (int w = 0; w < due.length; w++) {
            Check.due("goes(" + w + ")", x.goes(w), due[w]);
        }
    }

    private static void goesAsked() {
        Check.sentence("32: NONE for another what");
        WoundTape x = Check.even(1);
        for (int w : new int[] {-1, 4, Integer.MAX_VALUE, Integer.MIN_VALUE}) {
            Check.due("goes(" + w + ")", x.goes(w), NONE);
        }
        Check.sentence("4: GOES without deeds: where it STANDS");
        x.turn();
        goes(x, 1, 35, 0, 0);
        goes(new WoundTape(), 0, 0, 0, 0);
    }

    private static void goesJust() {
        Check.sentence("4: GOES: EVENING with just its h: where it STANDS at last, SECONDS, how many of these are winding");
        WoundTape x = Check.made(Check.TAPE, "speed 3;late 1;slip 700;", 4);
        x.state(3);
        Check.tell(x, 2, "on 1");
        goes(x, 0, 4, 2, 2);
        Check.tell(x, 2, "on 60 back 60");
        goes(x, 0, 0, 122, 122);
        Check.tell(x, 2, "hear 30 hear 30");
        goes(x, 0, 35, 60, 0);
        Check.tell(x, 2, "turn");
        goes(x, 1, 35, 8, 0);
        Check.tell(x, 2, "turn turn hear 4 turn");
        goes(x, 1, 31, 28, 0);
        Check.tell(x, 2, "again 2(on 2 hear 3 turn back 1)");
        // 7, 10, 25, 21; 28, 31, 4, 0.
        goes(x, 0, 0, 32, 10);
        Check.tell(x, 2, "on 2 hear 3 turn back 1");
        goes(x, 1, 21, 16, 5);
        x.put(30);
        Check.sentence("4: GOES from where it STANDS");
        goes(x, 1, 0, 16, 5);
        Check.tell(x, 2, "again 6(again 5(on 60 back 60))");
        goes(x, 0, 0, 60 * 61, 60 * 61);
        Check.looks(x, 5, 0);
        Check.sentence("4: GOES by THE LAW of the SIDE on which it is then");
        x = Check.made(Check.TAPE, "speed 4 when side=1;speed 3;late 0;", 1);
        Check.tell(x, 2, "on 2 turn back 3 turn on 1");
        // 6, 29, 17, 18, 21.
        goes(x, 0, 21, 9 + 16, 9);
        Check.sentence("4: GOES: each winding is one STOP more");
        x = Check.made(Check.TAPE, "speed 1+stops;late 0;", 1);
        Check.tell(x, 2, "on 3 hear 1 on 2 back 1");
        // 3, 4, 8, 5: by 1, 2 and 3 PLACES a second.
        goes(x, 0, 5, 10, 9);
        x.put(0);
        x.hear(2);
        goes(x, 0, 7, 10, 9);
        Check.looks(x, 6, 0);
    }

    private static void nothingStays() {
        Check.sentence("4: IN THOUGHT (nothing of it stays; no DRAWS)");
        WoundTape x = Check.made(Check.TAPE, "speed 3;late 1;slip 500;", 2);
        Check.tell(x, 2, "on 4 turn hear 3 back 2");
        Check.tell(x, 3, "after 0 1 wants 3;");
        x.state(17);
        x.wind(true, 4);
        String before = Check.seen(x);
        x.runs(3, true, 64);
        x.soonest(0, 1, 0);
        x.turned(2, 0);
        x.unsure(1);
        x.tells(0);
        x.card(2, 0);
        x.order(0);
        x.order(10);
        x.halves(0);
        x.sought(1);
        x.most();
        x.rule(3);
        x.best();
        x.goes(0);
        x.lawAt(3, false, 60, 1);
        Check.unchanged("a thought", x, before);
        Check.due("undo()", x.undo(), true);
        Check.looks(x, 10, 17);
    }
}
