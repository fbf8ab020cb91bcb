import java.util.ArrayList;
import java.util.List;
import java.util.Random;

/**
 * What the document makes two calls agree in, on tapes, laws and evenings by draws: what is told in thought
 * with what is done, a least sum with the sums it was chosen of. Nothing here reckons as WoundTape or Model does.
 */
public final class Agreements {
    private static final int SIDE = 2;
    private static final int PLACE = 3;
    private static final int SECONDS = 5;
    private static final int THUMB = 7;
    private static final int PAST = 8;
    private static final int UNDOABLE = 15;

    private final Random random;
    private String tape;
    private String law;

    private Agreements(long seed) {
        random = new Random(seed);
    }

    public static void main(String[] args) {
        int runs = args.length > 0 ? Integer.parseInt(args[0]) : 60;
        int first = args.length > 1 ? Integer.parseInt(args[1]) : 1;
        for (int seed = first; seed < first + runs; seed++) {
            Agreements a = new Agreements(seed);
            a.whereItStandsIsKnown();
            a.windingIsOneOfWhatRuns();
            a.soonestIsOneOfItsSums();
            a.turnedIsSoonestBehindTheTurn();
            a.tellsIsOfItsWinding();
            a.cardIsOfItsSet();
            a.orderIsOfItsOrder();
            a.halvesIsOfItsSet();
            a.mostIsSoughtMost();
            a.ruleIsNoBetterThanSoonest();
            a.goesIsTheEveningToCome();
            a.undoneAsItWas();
            a.imageAsItWas();
            a.aheadOfAFaultIsNone();
        }
        Check.finish("Agreements");
    }

    // ---- what is told by draws

    private int from(int least, int most) {
        return least + random.nextInt(most - least + 1);
    }

    private boolean chance(int percent) {
        return random.nextInt(100) < percent;
    }

    private String someOf(String... any) {
        return any[random.nextInt(any.length)];
    }

    private String sideText(int lines) {
        StringBuilder b = new StringBuilder();
        for (int i = 0; i < lines; i++) {
            b.append(chance(75) ? "song " + from(1, 20) + " wants " + from(0, 99) : "gap " + from(1, 20)).append(';');
        }
        return b.toString();
    }

    private String tapeText() {
        return sideText(from(0, 7)) + (chance(85) ? "turn;" + sideText(from(0, 7)) : "");
    }

    private String lawText() {
        StringBuilder b = new StringBuilder();
        for (int i = from(0, 4); i > 0; i--) {
            b.append(someOf("speed 1+stops", "speed 2+full/25", "speed 7-hold/4", "speed 1+at/9+side", "speed 3",
                "late stops", "late 2*on+side", "late hold/6", "late 0", "slip 9*full", "slip 300"));
            b.append(someOf("", "", " when on=1", " when stops<2 or song=99", " when not(side=1 and hold>4)",
                " when song>1 and not at<20", " when full<50")).append(';');
        }
        return b.toString();
    }

    private String eveningText() {
        StringBuilder b = new StringBuilder();
        for (int i = from(0, 6); i > 0; i--) {
            b.append(someOf("on ", "back ", "hear ")).append(from(1, 9)).append(chance(25) ? " turn " : " ");
        }
        return chance(40) ? "again " + from(1, 4) + "(" + b + ")" : b.toString();
    }

    private void tellAfters(WoundTape x) {
        int songs = x.look(1);
        StringBuilder b = new StringBuilder();
        for (int i = songs < 2 ? 0 : from(0, 12); i > 0; i--) {
            int a = random.nextInt(songs);
            int c = (a + from(1, songs - 1)) % songs;
            b.append("after ").append(a).append(' ').append(c).append(" wants ").append(from(0, 99)).append(';');
        }
        Check.due("no fault in " + b, Check.tell(x, 3, b.toString()) >= 0, true);
    }

    private WoundTape told() {
        tape = tapeText();
        law = lawText();
        WoundTape x = Check.made(tape, law, from(0, 4));
        x.set(1, from(0, 30));
        x.state(random.nextInt());
        tellAfters(x);
        String evening = eveningText();
        Check.due("no fault in " + evening, Check.tell(x, 2, evening) >= 0, true);
        return x;
    }

    private void deed(WoundTape x) {
        switch (random.nextInt(6)) {
            case 0 -> x.put(from(0, x.look(0)));
            case 1 -> x.hear(from(1, 5));
            case 2 -> x.turn();
            case 3 -> x.evening();
            default -> x.wind(chance(60), from(1, 15));
        }
    }

    private WoundTape used() {
        WoundTape x = told();
        for (int i = from(0, 6); i > 0; i--) {
            deed(x);
        }
        return x;
    }

    private String on(String call) {
        return call + " on " + tape + " by " + law;
    }

    private static List<Integer> songsOf(WoundTape x, int side) {
        List<Integer> songs = new ArrayList<>();
        for (int s = 0; s < x.look(1); s++) {
            if (x.song(s, 0) == side) {
                songs.add(s);
            }
        }
        return songs;
    }

    // ---- what is known and done

    private void whereItStandsIsKnown() {
        Check.sentence("KNOWN: the set of STANDS which one holds possible (where it STANDS is one of them)");
        WoundTape x = told();
        for (int i = 0; i < 12; i++) {
            deed(x);
            Check.due(on("known(look(3))"), x.known(x.look(PLACE)), 1);
            int many = 0;
            int set = 0;
            for (int p = 0; i % 4 == 0 && p <= x.look(0); p++) {
                many += x.known(p);
                set |= x.known(p) == 1 && x.at(x.look(SIDE), p) < 98 ? 1 << x.at(x.look(SIDE), p) : 0;
            }
            if (i % 4 == 0) {
                Check.due(on("unsure(0)"), x.unsure(0), many);
                Check.due(on("unsure(1)"), x.unsure(1), set);
            }
        }
    }

    private void windingIsOneOfWhatRuns() {
        Check.sentence("to WIND goes as it RUNS, held as THE BOOK tells");
        WoundTape x = used();
        for (int i = 0; i < 8; i++) {
            boolean on = chance(60);
            int h = from(1, 12);
            int thumb = x.look(THUMB);
            int place = x.look(PLACE);
            int seconds = x.look(SECONDS);
            int[] ends = new int[h + thumb + 1];
            for (int held = Math.max(0, h - thumb); held <= h + thumb; held++) {
                ends[held] = x.runs(place, on, held);
            }
            int end = x.wind(on, h);
            int line = x.look(9) - 1;
            int held = x.book(line, 2);
            Check.due(on("held"), held >= Math.max(0, h - thumb) && held <= h + thumb, true);
            Check.due(on("wind(" + on + ", " + h + ")"), end, ends[held]);
            Check.due(on("look(5)"), x.look(SECONDS), seconds + held + 1);
            Check.due(on("book(.., 0)"), x.book(line, 0), x.look(6));
            Check.due(on("book(.., 3)"), x.book(line, 3), end);
        }
    }

    // ---- what is least, and of what

    /** The sum of one winding, of RUNS alone. */
    private static int windingSum(WoundTape x, int place, int begin, boolean on, int h) {
        int sum = 0;
        for (int more = -x.look(THUMB); more <= x.look(THUMB); more++) {
            int held = Math.max(0, h + more);
            int end = x.runs(place, on, held);
            sum += held + 1 + (end <= begin ? begin - end : x.look(PAST) + 2 * (end - begin));
        }
        return sum;
    }

    private void soonestIsOneOfItsSums() {
        Check.sentence("SOONEST: the sum is that of its h, and none of others is less");
        WoundTape x = used();
        List<Integer> songs = songsOf(x, x.look(SIDE));
        if (songs.isEmpty()) {
            return;
        }
        int s = songs.get(random.nextInt(songs.size()));
        int begin = x.song(s, 1);
        int place = from(0, x.look(0));
        int sum = x.soonest(place, s, 0);
        int h = x.soonest(place, s, 1);
        boolean on = x.soonest(place, s, 2) == 1;
        if (h == 0) {
            Check.due(on("playing on"), sum, (begin - place) * (2 * x.look(THUMB) + 1));
            Check.due(on("soonest(.., 3)"), x.soonest(place, s, 3), 0);
        } else {
            Check.due(on("winding " + h), sum, windingSum(x, place, begin, on, h));
            Check.due(on("soonest(.., 3)"), x.soonest(place, s, 3), begin - x.runs(place, on, h));
        }
        for (int i = 0; i < 6; i++) {
            int other = from(1, 20);
            boolean ahead = chance(50);
            int otherSum = windingSum(x, place, begin, ahead, other);
            boolean sooner = other < h || other == h && ahead && !on;
            Check.due(on("winding " + other), sooner ? otherSum > sum : otherSum >= sum, true);
        }
    }

    private void turnedIsSoonestBehindTheTurn() {
        Check.sentence("TURNED: SOONEST from where it would STAND there, and 8 times (2 THUMB and 1) more");
        WoundTape x = used();
        for (int s : songsOf(x, 1 - x.look(SIDE))) {
            int sum = x.turned(s, 0);
            int h = x.turned(s, 1);
            int on = x.turned(s, 2);
            x.turn();
            Check.due(on("turned(" + s + ", 0)"), sum, x.soonest(x.look(PLACE), s, 0) + 8 * (2 * x.look(THUMB) + 1));
            Check.due(on("turned(" + s + ", 1)"), h, x.soonest(x.look(PLACE), s, 1));
            Check.due(on("turned(" + s + ", 2)"), on, x.soonest(x.look(PLACE), s, 2));
            x.undo();
        }
    }

    private static int hearingAlike(WoundTape x, List<Integer> known, boolean on, int h) {
        int[] many = new int[100];
        int most = 0;
        for (int p : known) {
            for (int more = -x.look(THUMB); more <= x.look(THUMB); more++) {
                int heard = x.at(x.look(SIDE), x.runs(p, on, Math.max(0, h + more)));
                many[heard]++;
                most = Math.max(most, many[heard]);
            }
        }
        return most;
    }

    private void tellsIsOfItsWinding() {
        Check.sentence("TELLS: the number is that of its winding, and none of others is less");
        WoundTape x = used();
        List<Integer> known = new ArrayList<>();
        for (int p = 0; p <= x.look(0); p++) {
            if (x.known(p) == 1) {
                known.add(p);
            }
        }
        if (known.size() > 12) {
            return;
        }
        int h = x.tells(0);
        boolean on = x.tells(1) == 1;
        Check.due(on("tells(2)"), x.tells(2), hearingAlike(x, known, on, h));
        int other = from(1, 20);
        boolean sooner = other < h || other == h && !on;
        int most = hearingAlike(x, known, true, other);
        Check.due(on("winding " + other), sooner ? most > x.tells(2) : most >= x.tells(2), true);
    }

    private void cardIsOfItsSet() {
        Check.sentence("CARD: the sum is that of its set; one more mark never makes it greater");
        WoundTape x = told();
        List<Integer> songs = songsOf(x, 0);
        for (int k = 1; k <= 6; k++) {
            int set = x.card(k, 1);
            int sum = 0;
            for (int s : songs) {
                int from = 0;
                for (int m : songs) {
                    from = (set >> m & 1) == 1 && m <= s ? x.song(m, 1) : from;
                }
                sum += x.song(s, 3) * (x.song(s, 1) - from);
            }
            Check.due(on("card(" + k + ", 0)"), x.card(k, 0), sum);
            Check.due(on("card(" + k + ", 1)"), Integer.bitCount(set), Math.min(k, songs.size()));
            Check.due(on("card"), k == 6 || x.card(k + 1, 0) <= sum, true);
        }
    }

    private static int orderSum(WoundTape x, List<Integer> order) {
        int sum = 0;
        for (int i = 0; i < order.size(); i++) {
            int between = 0;
            for (int j = i + 1; j < order.size(); j++) {
                int a = order.get(i);
                int b = order.get(j);
                int back = between + x.song(a, 2) + x.song(b, 2);
                sum += x.after(a, b) * between + x.after(b, a) * back;
                between += x.song(b, 2);
            }
        }
        return sum;
    }

    private void orderIsOfItsOrder() {
        Check.sentence("ORDER: the sum is that of its order; no change of two neighbours makes it less");
        WoundTape x = told();
        if (chance(50)) {
            x.turn();
        }
        List<Integer> songs = songsOf(x, x.look(SIDE));
        List<Integer> order = new ArrayList<>();
        for (int i = 0; i < songs.size(); i++) {
            order.add(x.order(10 + i));
        }
        List<Integer> sorted = new ArrayList<>(order);
        sorted.sort(null);
        Check.due(on("the SONGS of ORDER"), sorted.equals(songs), true);
        Check.due(on("order(0)"), x.order(0), orderSum(x, order));
        Check.due(on("order by number"), orderSum(x, songs) >= x.order(0), true);
        for (int i = 1; i < order.size(); i++) {
            List<Integer> other = new ArrayList<>(order);
            other.set(i - 1, order.get(i));
            other.set(i, order.get(i - 1));
            int sum = orderSum(x, other);
            boolean ahead = order.get(i) < order.get(i - 1);
            Check.due(on("another order"), ahead ? sum > x.order(0) : sum >= x.order(0), true);
        }
    }

    private void halvesIsOfItsSet() {
        Check.sentence("HALVES: the difference is that of its set; to lay one SONG elsewhere never makes it less");
        WoundTape x = told();
        int songs = x.look(1);
        if (songs > 12) {
            Check.due(on("halves(0)"), x.halves(0), Check.NONE);
            return;
        }
        int set = x.halves(1);
        int ahead = 0;
        for (int s = 0; s < songs; s++) {
            ahead += ((set >> s & 1) == 1 ? 1 : -1) * x.song(s, 2);
        }
        Check.due(on("halves(0)"), x.halves(0), Math.abs(ahead));
        Check.due(on("halves(1)"), set >> songs, 0);
        for (int s = 0; s < songs; s++) {
            int laid = ahead + ((set >> s & 1) == 1 ? -2 : 2) * x.song(s, 2);
            Check.due(on("another way"), Math.abs(laid) >= x.halves(0), true);
        }
    }

    private void mostIsSoughtMost() {
        Check.sentence("MOST sought: the SONG with the greatest sum (of several the first)");
        WoundTape x = used();
        for (int i = from(0, 12); i > 0; i--) {
            x.worn(from(0, x.look(0)), from(1, 5));
        }
        int most = x.most();
        List<Integer> songs = songsOf(x, x.look(SIDE));
        Check.due(on("most()"), songs.contains(most) || songs.isEmpty() && most == Check.NONE, true);
        for (int s : songs) {
            Check.due(on("sought(" + s + ")"),
                s < most ? x.sought(s) < x.sought(most) : x.sought(s) <= x.sought(most), true);
        }
    }

    private void ruleIsNoBetterThanSoonest() {
        Check.sentence("RULE: WANTED times a sum of SOONEST's, added; BEST: the least of it");
        WoundTape x = used();
        long least = 0;
        for (int s : songsOf(x, x.look(SIDE))) {
            least += (long) x.song(s, 3) * x.soonest(x.look(PLACE), s, 0);
        }
        int best = x.best();
        for (int b = 0; b <= 30; b++) {
            Check.due(on("rule(" + b + ")"), x.rule(b) >= least, true);
            Check.due(on("best()"), b < best ? x.rule(b) > x.rule(best) : x.rule(b) >= x.rule(best), true);
        }
    }

    // ---- what was told in thought, done and undone

    private void goesIsTheEveningToCome() {
        Check.sentence("GOES: EVENING with just its h, as it is gone through with THUMB 0");
        for (int i = 0; i < 5; i++) {
            WoundTape x = used();
            x.set(0, 0);
            int[] goes = {x.goes(0), x.goes(1), x.goes(2), x.goes(3)};
            int seconds = x.look(SECONDS);
            int lines = x.look(9);
            x.evening();
            int winding = 0;
            for (int line = lines; line < x.look(9); line++) {
                winding += x.book(line, 1) < 2 ? x.book(line, 2) + 1 : 0;
            }
            Check.due(on("goes(0)"), goes[0], x.look(SIDE));
            Check.due(on("goes(1)"), goes[1], x.look(PLACE));
            Check.due(on("goes(2)"), goes[2], x.look(SECONDS) - seconds);
            if (x.look(9) < 150) {
                Check.due(on("goes(3)"), goes[3], winding);
            }
        }
    }

    private void undoneAsItWas() {
        Check.sentence("UNDO: what was done goes back, the latest first");
        WoundTape x = used();
        int undoable = x.look(UNDOABLE);
        List<String> was = new ArrayList<>();
        int deeds = from(1, 6);
        for (int i = 0; i < deeds; i++) {
            was.add(stood(x));
            deed(x);
        }
        Check.due("look(15)", x.look(UNDOABLE), Math.min(6, undoable + deeds));
        for (int i = deeds - 1; i >= 0; i--) {
            Check.due("undo()", x.undo(), true);
            Check.due(on("as it was"), stood(x).equals(was.get(i)), true);
        }
    }

    /** All that a deed may change, but what can be undone. */
    private static String stood(WoundTape x) {
        StringBuilder b = new StringBuilder();
        for (int w : new int[] {SIDE, PLACE, 4, SECONDS, 6, 9, 10}) {
            b.append(x.look(w)).append(' ');
        }
        int line = x.look(9) - 1;
        b.append(x.book(line, 0)).append(' ').append(x.book(line, 1)).append(' ').append(x.book(line, 2));
        b.append(' ').append(x.unsure(0)).append(' ').append(x.unsure(1));
        for (int p = Math.max(0, x.look(PLACE) - 5); p < x.look(PLACE) + 6; p++) {
            b.append(' ').append(x.known(p));
        }
        return b.toString();
    }

    private void imageAsItWas() {
        Check.sentence("THE IMAGE: all that is and was told, as it was when it was taken");
        WoundTape x = used();
        x.image(true);
        String was = stood(x) + x.goes(1) + ' ' + x.best() + ' ' + x.order(0) + ' ' + x.tells(0);
        for (int i = 0; i < 3; i++) {
            deed(x);
        }
        x.set(0, from(0, 4));
        Check.tell(x, 1, lawText());
        Check.tell(x, 0, tapeText());
        deed(x);
        Check.due("image(false)", x.image(false), true);
        String now = stood(x) + x.goes(1) + ' ' + x.best() + ' ' + x.order(0) + ' ' + x.tells(0);
        Check.due(on("as it was"), now.equals(was), true);
        Check.due("look(15)", x.look(UNDOABLE), 0);
    }

    private void aheadOfAFaultIsNone() {
        Check.sentence("FAULTS, the first by its place: of what stands ahead of it none is told");
        int k = from(0, 3);
        String text = k == 0 ? tapeText() : k == 1 ? lawText() : k == 2 ? eveningText() : "after 0 1 wants 5;";
        for (int i = 0; i < 8; i++) {
            int at = random.nextInt(text.length() + 1);
            String put = someOf("0", "99", "x", ";", "(", ")", "not ", " turn", "/0", " or ", "", "again 2(", "=");
            String spoilt = text.substring(0, at) + put + text.substring(Math.min(text.length(), at + from(0, 2)));
            WoundTape x = Check.made("song 1 wants 1;song 1 wants 1;", "", 1);
            int lines = Check.tell(x, k, spoilt);
            int fault = x.fault(0);
            int place = x.fault(1);
            Check.due("fault(0) of " + spoilt, fault == 0, lines != Check.NONE);
            Check.due("fault(1) of " + spoilt, fault == 0 ? place == Check.NONE : place >= 0 && place <= spoilt.length(), true);
            if (fault == 0) {
                continue;
            }
            Check.due("4 is at the end of " + spoilt, fault != 4 || place == spoilt.length(), true);
            String ahead = spoilt.substring(0, place);
            Check.tell(x, k, ahead);
            Check.due("fault(1) of " + ahead, x.fault(0) == 0 || x.fault(1) == ahead.length(), true);
        }
    }
}
