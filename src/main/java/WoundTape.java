import java.util.Arrays;

/**
 * A tape that is wound back by guess: two sides of songs and gaps, a law by which it winds, a thumb
 * that holds too long or not long enough, what one knows of where it stands, and what can be
 * reckoned of all this in thought.
 */
public final class WoundTape {
    public static final int NONE = -1;

    private static final int GAP_HEARD = 98;
    private static final int END_HEARD = 99;
    private static final int LONGEST = 200;
    private static final int STANDS = LONGEST + 1;
    private static final int MOST_SONGS = 14;
    private static final int LONGEST_HOLD = 60;
    private static final int HOLDS = 65;
    private static final int WOUND_ON = 0;
    private static final int WOUND_BACK = 1;
    private static final int HEARD = 2;
    private static final int TURNED = 3;
    private static final int PUT = 4;
    private static final int UNDOS = 6;
    // Above every sum that can come about.
    private static final int HUGE = 1000000000;

    private final Tokens tokens = new Tokens();
    private final Deck deck = new Deck();
    private final Deck picture = new Deck();
    // Texts are read into these, as one with a fault leaves what was told as it was.
    private final Sides readSides = new Sides();
    private final Law readLaw = new Law();
    private final Evening readEvening = new Evening();
    private final Afters readAfters = new Afters();
    private final Runner runner = new Runner();
    private final Thought thought = new Thought();
    private final Plans plans = new Plans();
    private final Stand[] earlier = new Stand[UNDOS];
    private int undoable;
    private boolean pictured;

    public WoundTape() {
        for (int i = 0; i < UNDOS; i++) {
            earlier[i] = new Stand();
        }
    }

    public int state(int v) {
        int was = deck.stand.draws;
        deck.stand.draws = v;
        undoable = 0;
        return was;
    }

    public boolean set(int what, int v) {
        if (what == 0 && v >= 0 && v <= 4) {
            deck.thumb = v;
        } else if (what == 1 && v >= 0 && v <= 99) {
            deck.past = v;
        } else {
            return false;
        }
        undoable = 0;
        return true;
    }

    public boolean put(int place) {
        if (!deck.sides.reaches(place)) {
            return false;
        }
        remember();
        deck.layAt(place);
        return true;
    }

    public int wind(boolean on, int h) {
        if (h < 1 || h > LONGEST_HOLD) {
            return NONE;
        }
        remember();
        deck.windFor(runner, on, h);
        return deck.stand.place;
    }

    public int hear(int n) {
        if (n < 1 || n > 30) {
            return NONE;
        }
        remember();
        return deck.listen(n);
    }

    public int turn() {
        remember();
        deck.turnOver();
        return deck.stand.place;
    }

    public int evening() {
        remember();
        Evening told = deck.evening;
        for (int i = 0; i < told.deeds && i < Evening.MOST; i++) {
            int what = told.whats[i];
            if (what == HEARD) {
                deck.listen(told.amounts[i]);
            } else if (what == TURNED) {
                deck.turnOver();
            } else {
                deck.windFor(runner, what == WOUND_ON, told.amounts[i]);
            }
        }
        return told.deeds;
    }

    public int feed(int a, int b, int c, int d, int e) {
        if (!tokens.hasRoom(20)) {
            return NONE;
        }
        tokens.append(a);
        tokens.append(b);
        tokens.append(c);
        tokens.append(d);
        tokens.append(e);
        return tokens.size;
    }

    public boolean end(int n) {
        return tokens.cut(n);
    }

    public int text(int k) {
        tokens.split();
        int lines = NONE;
        if (k == 0 && readSides.read(tokens)) {
            deck.takeTape(readSides);
            undoable = 0;
            lines = deck.sides.songs;
        } else if (k == 1 && readLaw.read(tokens)) {
            deck.law.copyFrom(readLaw);
            lines = deck.law.lines;
        } else if (k == 2 && readEvening.read(tokens)) {
            deck.evening.copyFrom(readEvening);
            undoable = 0;
            lines = deck.evening.deeds;
        } else if (k == 3 && readAfters.read(tokens, deck.sides.songs)) {
            deck.afters.copyFrom(readAfters);
            lines = deck.afters.lines;
        }
        tokens.cut(0);
        return lines;
    }

    public int fault(int what) {
        if (what == 0) {
            return tokens.fault;
        }
        return what == 1 ? tokens.faultPlace : NONE;
    }

    public int song(int s, int what) {
        Sides sides = deck.sides;
        if (!sides.hasSong(s)) {
            return NONE;
        }
        switch (what) {
            case 0:
                return sides.sideOf(s);
            case 1:
                return sides.begins[s];
            case 2:
                return sides.longs[s];
            case 3:
                return sides.wanted[s];
            default:
                return NONE;
        }
    }

    public int at(int side, int place) {
        if (side < 0 || side > 1 || !deck.sides.reaches(place)) {
            return NONE;
        }
        return deck.sides.heardAt(side, place);
    }

    public int after(int a, int b) {
        if (!deck.sides.hasSong(a) || !deck.sides.hasSong(b) || a == b) {
            return NONE;
        }
        return deck.afters.wish(a, b);
    }

    public int known(int place) {
        return deck.sides.reaches(place) ? deck.stand.known[place] : NONE;
    }

    public int lawAt(int place, boolean on, int h, int what) {
        if (!deck.sides.reaches(place) || !canHold(h) || what < 0 || what > Law.SLIP) {
            return NONE;
        }
        runner.face(deck.stand.side, deck.stand.stops);
        runner.press(on, h);
        return runner.told(deck, place, what);
    }

    public int book(int i, int what) {
        if (i < 0 || i >= deck.stand.bookLines || what < 0 || what >= Book.COLUMNS) {
            return NONE;
        }
        return deck.book.entry(i, what);
    }

    public int runs(int place, boolean on, int h) {
        if (!deck.sides.reaches(place) || !canHold(h)) {
            return NONE;
        }
        runner.face(deck.stand.side, deck.stand.stops);
        runner.press(on, h);
        return runner.reach(deck, place);
    }

    public int soonest(int place, int song, int what) {
        int side = deck.stand.side;
        if (what < 0 || what > 3 || !deck.sides.reaches(place) || !deck.sides.hasSongOn(side, song)) {
            return NONE - 999;
        }
        thought.gather(deck, runner, side, place);
        thought.seek(deck, deck.sides.begins[song]);
        return thought.found(what, 0);
    }

    public int turned(int song, int what) {
        int side = 1 - deck.stand.side;
        if (what < 0 || what > 2 || !deck.sides.hasSongOn(side, song)) {
            return NONE;
        }
        thought.gather(deck, runner, side, deck.sides.length - deck.stand.place);
        thought.seek(deck, deck.sides.begins[song]);
        return thought.found(what, 8 * deck.thumbs());
    }

    public int unsure(int what) {
        switch (what) {
            case 0:
                return deck.countKnown();
            case 1:
                return deck.songsNext();
            case 2:
                return deck.mayHear(GAP_HEARD) ? 1 : 0;
            case 3:
                return deck.mayHear(END_HEARD) ? 1 : 0;
            default:
                return NONE;
        }
    }

    public int tells(int what) {
        if (what < 0 || what > 2) {
            return NONE;
        }
        thought.tally(deck, runner);
        thought.findTelling(deck);
        if (what == 0) {
            return thought.hold;
        }
        return what == 1 ? thought.forward : thought.sum;
    }

    public int card(int k, int what) {
        if (k < 1 || k > 6 || what < 0 || what > 1) {
            return NONE;
        }
        plans.mark(deck.sides, k);
        return what == 0 ? plans.least : plans.chosen;
    }

    public int order(int what) {
        int many = deck.sides.songsOn(deck.stand.side);
        boolean asked = what == 0 || what >= 10 && what - 10 < many;
        if (many > Plans.MOST_ORDERED || !asked) {
            return NONE;
        }
        plans.arrange(deck);
        return what == 0 ? plans.least : plans.orderedSong(what - 10);
    }

    public int halves(int what) {
        if (deck.sides.songs > Plans.MOST_LAID || what < 0 || what > 1) {
            return NONE;
        }
        if (!plans.halve(deck.sides)) {
            return NONE;
        }
        return what == 0 ? plans.least : plans.chosen;
    }

    public int worn(int place, int n) {
        if (place == NONE) {
            deck.worn = 0;
            return 0;
        }
        if (!deck.sides.reaches(place) || n < 1 || n > 99) {
            return NONE;
        }
        return deck.wearAt(place, n) ? deck.worn : NONE;
    }

    public int sought(int song) {
        if (!deck.sides.hasSongOn(deck.stand.side, song)) {
            return NONE;
        }
        return deck.wearNear(deck.sides.begins[song]);
    }

    public int most() {
        return deck.mostSought();
    }

    public long rule(int b) {
        if (b < 0 || b > 30) {
            return NONE;
        }
        thought.gather(deck, runner, deck.stand.side, deck.stand.place);
        return thought.cost(deck, b);
    }

    public int best() {
        thought.gather(deck, runner, deck.stand.side, deck.stand.place);
        return thought.cheapest(deck);
    }

    public int goes(int what) {
        if (what < 0 || what > 3) {
            return NONE;
        }
        thought.passEvening(deck, runner);
        return thought.passed(what);
    }

    public boolean undo() {
        if (undoable < 1 || undoable > UNDOS) {
            return false;
        }
        undoable--;
        deck.stand.copyFrom(earlier[undoable]);
        return true;
    }

    public boolean image(boolean taken) {
        if (taken) {
            picture.copyFrom(deck);
            pictured = true;
            return true;
        }
        if (!pictured) {
            return false;
        }
        deck.copyFrom(picture);
        undoable = 0;
        return true;
    }

    public int look(int what) {
        if (what >= 8) {
            return lookAtTold(what);
        }
        Stand stand = deck.stand;
        switch (what) {
            case 0:
                return deck.sides.length;
            case 1:
                return deck.sides.songs;
            case 2:
                return stand.side;
            case 3:
                return stand.place;
            case 4:
                return stand.counter;
            case 5:
                return stand.seconds;
            case 6:
                return stand.stops;
            case 7:
                return deck.thumb;
            default:
                return NONE;
        }
    }

    private int lookAtTold(int what) {
        switch (what) {
            case 8:
                return deck.past;
            case 9:
                return deck.stand.bookLines;
            case 10:
                return deck.stand.draws;
            case 11:
                return deck.law.lines;
            case 12:
                return deck.evening.deeds;
            case 13:
                return deck.afters.lines;
            case 14:
                return deck.worn;
            case 15:
                return undoable;
            default:
                return NONE;
        }
    }

    private static boolean canHold(int h) {
        return h >= 0 && h < HOLDS;
    }

    private void remember() {
        if (undoable >= UNDOS) {
            Stand oldest = earlier[0];
            for (int i = 1; i < UNDOS; i++) {
                earlier[i - 1] = earlier[i];
            }
            earlier[UNDOS - 1] = oldest;
            undoable = UNDOS - 1;
        }
        earlier[undoable].copyFrom(deck.stand);
        undoable++;
    }

    /** The tape of bytes, and what the latest text was cut into. */
    private static final class Tokens {
        static final int MOST = 400;
        static final int NUMBER = 200;
        static final int STRANGE = 201;
        static final int END = 202;
        static final int SONG = 300;
        static final int WANTS = 301;
        static final int GAP = 302;
        static final int TURN = 303;
        static final int SPEED = 304;
        static final int LATE = 305;
        static final int SLIP = 306;
        static final int WHEN = 307;
        static final int OR = 308;
        static final int AND = 309;
        static final int NOT = 310;
        static final int AT = 311;
        static final int FULL = 312;
        static final int ON = 313;
        static final int HOLD = 314;
        static final int SIDE = 315;
        static final int STOPS = 316;
        static final int BACK = 317;
        static final int HEAR = 318;
        static final int AGAIN = 319;
        static final int AFTER = 320;
        // In the order of the numbers above, a blank behind each.
        private static final String KEYWORDS =
            "song wants gap turn speed late slip when or and not at full on hold side stops back hear again after ";
        private static final String SIGNS = ";+-*/()<=>";

        private final int[] bytes = new int[MOST];
        int size;
        private final int[] kinds = new int[MOST + 1];
        private final int[] values = new int[MOST + 1];
        private final int[] places = new int[MOST + 1];
        private int many;
        private int next;
        int fault;
        int faultPlace = NONE;

        boolean hasRoom(int n) {
            return size + n <= MOST;
        }

        void append(int four) {
            for (int shift = 24; shift >= 0 && size < MOST; shift -= 8) {
                bytes[size] = (four >>> shift) & 255;
                size++;
            }
        }

        boolean cut(int n) {
            if (n < 0 || n > size) {
                return false;
            }
            size = n;
            return true;
        }

        void split() {
            many = 0;
            next = 0;
            fault = 0;
            faultPlace = NONE;
            int i = 0;
            for (int guard = 0; guard < MOST && i < size; guard++) {
                i = isBlank(bytes[i]) ? i + 1 : cutToken(i);
            }
            addToken(END, 0, size);
        }

        private int cutToken(int from) {
            int c = bytes[from];
            if (isDigit(c)) {
                return cutNumber(from);
            }
            if (!isLetter(c)) {
                addToken(SIGNS.indexOf((char) c) >= 0 ? c : STRANGE, 0, from);
                return from + 1;
            }
            int to = from + 1;
            while (to < size && isLetter(bytes[to])) {
                to++;
            }
            addToken(keyword(from, to), 0, from);
            return to;
        }

        private int cutNumber(int from) {
            int to = from;
            int value = 0;
            while (to < size && isDigit(bytes[to])) {
                value = to - from < 4 ? value * 10 + bytes[to] - '0' : value;
                to++;
            }
            addToken(to - from <= 4 ? NUMBER : STRANGE, value, from);
            return to;
        }

        private void addToken(int kind, int value, int place) {
            if (many < kinds.length) {
                kinds[many] = kind;
                values[many] = value;
                places[many] = place;
                many++;
            }
        }

        private int keyword(int from, int to) {
            int kind = SONG;
            int start = 0;
            for (int i = 0; i < KEYWORDS.length(); i++) {
                if (KEYWORDS.charAt(i) == ' ') {
                    if (i - start == to - from && isWritten(from, to, start)) {
                        return kind;
                    }
                    kind++;
                    start = i + 1;
                }
            }
            return STRANGE;
        }

        private boolean isWritten(int from, int to, int start) {
            for (int i = from; i < to; i++) {
                if (bytes[i] != KEYWORDS.charAt(start + i - from)) {
                    return false;
                }
            }
            return true;
        }

        private static boolean isBlank(int c) {
            return c == 32 || c == 10;
        }

        private static boolean isDigit(int c) {
            return c >= '0' && c <= '9';
        }

        private static boolean isLetter(int c) {
            return c >= 'a' && c <= 'z' || c >= 'A' && c <= 'Z';
        }

        int kind() {
            return kinds[next];
        }

        void pass() {
            if (next + 1 < many) {
                next++;
            }
        }

        /** Notes the fault at the token that comes next; false, so that readers can hand it on. */
        boolean refuse(int number) {
            fault = number;
            faultPlace = places[next];
            return false;
        }

        boolean take(int kind) {
            if (kinds[next] != kind) {
                return refuse(1);
            }
            pass();
            return true;
        }

        boolean isNumber(int value) {
            return kinds[next] == NUMBER && values[next] == value;
        }

        /** A NUMBER within bounds; NONE with a fault noted. */
        int number(int least, int most) {
            if (kinds[next] != NUMBER) {
                refuse(1);
                return NONE;
            }
            int value = values[next];
            if (value < least || value > most) {
                refuse(2);
                return NONE;
            }
            pass();
            return value;
        }
    }

    /** THE TAPE: both sides with their songs. */
    private static final class Sides {
        private static final int MOST_LINES = 20;

        int length;
        int songs;
        private int songsAhead;
        final int[] begins = new int[MOST_SONGS];
        final int[] longs = new int[MOST_SONGS];
        final int[] wanted = new int[MOST_SONGS];
        private final int[] told = new int[2];
        private final int[][] heard = new int[2][STANDS];

        Sides() {
            fillHeard();
        }

        boolean reaches(int place) {
            return place >= 0 && place <= length;
        }

        boolean hasSong(int s) {
            return s >= 0 && s < songs;
        }

        int sideOf(int s) {
            return s < songsAhead ? 0 : 1;
        }

        boolean hasSongOn(int side, int s) {
            return s >= firstOn(side) && s < firstOn(side) + songsOn(side);
        }

        int firstOn(int side) {
            return side == 0 ? 0 : songsAhead;
        }

        int songsOn(int side) {
            return side == 0 ? songsAhead : songs - songsAhead;
        }

        int heardAt(int side, int place) {
            if (side < 0 || side > 1 || !reaches(place)) {
                return END_HEARD;
            }
            return heard[side][place];
        }

        boolean read(Tokens t) {
            songs = 0;
            told[0] = 0;
            told[1] = 0;
            int side = 0;
            int lines = 0;
            for (int guard = 0; guard <= Tokens.MOST && t.kind() != Tokens.END; guard++) {
                int kind = t.kind();
                if (kind == Tokens.TURN && side == 0) {
                    t.pass();
                    songsAhead = songs;
                    side = 1;
                } else if (kind != Tokens.SONG && kind != Tokens.GAP) {
                    return t.refuse(1);
                } else if (lines >= MOST_LINES || kind == Tokens.SONG && songs >= MOST_SONGS) {
                    return t.refuse(3);
                } else if (!readLine(t, kind, side)) {
                    return false;
                } else {
                    lines++;
                }
                if (!t.take(';')) {
                    return false;
                }
            }
            if (side == 0) {
                songsAhead = songs;
            }
            return layOut(t);
        }

        private boolean readLine(Tokens t, int kind, int side) {
            t.pass();
            int n = t.number(1, 60);
            if (n < 0) {
                return false;
            }
            if (kind == Tokens.SONG) {
                if (!t.take(Tokens.WANTS)) {
                    return false;
                }
                int wants = t.number(0, 99);
                if (wants < 0) {
                    return false;
                }
                begins[songs] = told[side];
                longs[songs] = n;
                wanted[songs] = wants;
                songs++;
            }
            told[side] += n;
            return true;
        }

        private boolean layOut(Tokens t) {
            length = Math.max(told[0], told[1]);
            if (length > LONGEST) {
                length = 0;
                songs = 0;
                songsAhead = 0;
                return t.refuse(4);
            }
            fillHeard();
            return true;
        }

        private void fillHeard() {
            for (int side = 0; side < 2; side++) {
                for (int place = 0; place < STANDS; place++) {
                    heard[side][place] = place < length ? GAP_HEARD : END_HEARD;
                }
            }
            for (int s = 0; s < songs; s++) {
                int[] row = heard[sideOf(s)];
                for (int place = begins[s]; place < begins[s] + longs[s] && place < STANDS; place++) {
                    row[place] = s;
                }
            }
        }

        void copyFrom(Sides other) {
            length = other.length;
            songs = other.songs;
            songsAhead = other.songsAhead;
            System.arraycopy(other.begins, 0, begins, 0, MOST_SONGS);
            System.arraycopy(other.longs, 0, longs, 0, MOST_SONGS);
            System.arraycopy(other.wanted, 0, wanted, 0, MOST_SONGS);
            System.arraycopy(other.heard[0], 0, heard[0], 0, STANDS);
            System.arraycopy(other.heard[1], 0, heard[1], 0, STANDS);
        }
    }

    /** THE LAW: its lines as code for a stack. */
    private static final class Law {
        static final int SPEED = 0;
        static final int LATE = 1;
        static final int SLIP = 2;
        static final int WORDS = 3;
        static final int AT = 0;
        static final int FULL = 1;
        static final int ON = 2;
        static final int HOLD = 3;
        static final int SIDE = 4;
        static final int SONG = 5;
        static final int STOPS = 6;
        static final int VARIABLES = 7;
        private static final int MOST_LINES = 16;
        private static final int MOST_OPEN = 8;
        // Code below the first is a NUMBER itself, from there a variable, from the second a sign.
        private static final int VARIABLE = 10000;
        private static final int SIGN = 20000;

        int lines;
        private final int[] words = new int[MOST_LINES];
        private final int[] starts = new int[MOST_LINES];
        private final int[] whens = new int[MOST_LINES];
        private final int[] ends = new int[MOST_LINES];
        private final int[] code = new int[Tokens.MOST];
        private int size;
        private final int[] stack = new int[64];

        boolean read(Tokens t) {
            lines = 0;
            size = 0;
            for (int guard = 0; guard <= Tokens.MOST && t.kind() != Tokens.END; guard++) {
                int word = t.kind() - Tokens.SPEED;
                if (word < SPEED || word > SLIP) {
                    return t.refuse(1);
                }
                if (lines >= MOST_LINES) {
                    return t.refuse(3);
                }
                t.pass();
                words[lines] = word;
                starts[lines] = size;
                if (!readSum(t)) {
                    return false;
                }
                whens[lines] = size;
                if (t.kind() == Tokens.WHEN) {
                    t.pass();
                    if (!readChoice(t, 0)) {
                        return false;
                    }
                }
                ends[lines] = size;
                lines++;
                if (!t.take(';')) {
                    return false;
                }
            }
            return true;
        }

        /** B, with its A: a sign is put behind both its parts, so "and" is put ahead of "or". */
        private boolean readChoice(Tokens t, int open) {
            boolean and = false;
            boolean or = false;
            for (int guard = 0; guard <= Tokens.MOST; guard++) {
                if (!readClaim(t, open)) {
                    return false;
                }
                if (and) {
                    emit(SIGN + '&');
                }
                and = t.kind() == Tokens.AND;
                if (!and) {
                    if (or) {
                        emit(SIGN + '|');
                    }
                    or = t.kind() == Tokens.OR;
                    if (!or) {
                        return true;
                    }
                }
                t.pass();
            }
            return false;
        }

        /** C: open tells how many "(" and "not" are open already. */
        private boolean readClaim(Tokens t, int open) {
            int kind = t.kind();
            if (kind == Tokens.NOT || kind == '(') {
                if (open >= MOST_OPEN) {
                    return t.refuse(3);
                }
                t.pass();
                if (kind == '(') {
                    return readChoice(t, open + 1) && t.take(')');
                }
                boolean read = readClaim(t, open + 1);
                emit(SIGN + '!');
                return read;
            }
            if (!readSum(t)) {
                return false;
            }
            int sign = t.kind();
            if (sign != '<' && sign != '=' && sign != '>') {
                return t.refuse(1);
            }
            t.pass();
            boolean read = readSum(t);
            emit(SIGN + sign);
            return read;
        }

        /** E, with its T: * and / are put ahead of + and -. */
        private boolean readSum(Tokens t) {
            int times = 0;
            int plus = 0;
            for (int guard = 0; guard <= Tokens.MOST; guard++) {
                if (!readUnit(t, times == '/')) {
                    return false;
                }
                if (times != 0) {
                    emit(SIGN + times);
                }
                times = t.kind();
                if (times != '*' && times != '/') {
                    times = 0;
                    if (plus != 0) {
                        emit(SIGN + plus);
                    }
                    plus = t.kind();
                    if (plus != '+' && plus != '-') {
                        return true;
                    }
                }
                t.pass();
            }
            return false;
        }

        private boolean readUnit(Tokens t, boolean divides) {
            int variable = divides ? NONE : variable(t.kind());
            if (variable != NONE) {
                t.pass();
                emit(VARIABLE + variable);
                return true;
            }
            int n = t.number(divides ? 1 : 0, 9999);
            emit(n);
            return n >= 0;
        }

        private static int variable(int kind) {
            switch (kind) {
                case Tokens.AT:
                    return AT;
                case Tokens.FULL:
                    return FULL;
                case Tokens.ON:
                    return ON;
                case Tokens.HOLD:
                    return HOLD;
                case Tokens.SIDE:
                    return SIDE;
                case Tokens.SONG:
                    return SONG;
                case Tokens.STOPS:
                    return STOPS;
                default:
                    return NONE;
            }
        }

        private void emit(int c) {
            if (size < code.length) {
                code[size] = c;
                size++;
            }
        }

        /** What the first line with that word tells, whose B is so. */
        int tell(int word, int[] asked) {
            for (int i = 0; i < lines; i++) {
                if (words[i] == word && (whens[i] == ends[i] || reckon(whens[i], ends[i], asked) != 0)) {
                    return held(word, reckon(starts[i], whens[i], asked));
                }
            }
            if (word == SPEED) {
                return 2 + asked[FULL] / 20;
            }
            return word == LATE ? 1 : 0;
        }

        private static int held(int word, int n) {
            if (word == SPEED) {
                return Math.max(1, Math.min(30, n));
            }
            return Math.max(0, Math.min(word == LATE ? 9 : 1000, n));
        }

        private int reckon(int from, int to, int[] asked) {
            int top = 0;
            stack[0] = 0;
            for (int i = from; i < to && i < size; i++) {
                int c = code[i];
                if (c < SIGN) {
                    if (top >= stack.length) {
                        return 0;
                    }
                    stack[top] = c < VARIABLE ? c : asked[c - VARIABLE];
                    top++;
                } else if (c == SIGN + '!') {
                    if (top < 1) {
                        return 0;
                    }
                    stack[top - 1] = 1 - stack[top - 1];
                } else {
                    if (top < 2) {
                        return 0;
                    }
                    top--;
                    stack[top - 1] = joined(c - SIGN, stack[top - 1], stack[top]);
                }
            }
            return stack[0];
        }

        private static int joined(int sign, int a, int b) {
            switch (sign) {
                case '+':
                    return a + b;
                case '-':
                    return a - b;
                case '*':
                    return a * b;
                case '/':
                    return b == 0 ? 0 : a / b;
                case '<':
                    return a < b ? 1 : 0;
                case '=':
                    return a == b ? 1 : 0;
                case '>':
                    return a > b ? 1 : 0;
                case '&':
                    return a & b;
                default:
                    return a | b;
            }
        }

        void copyFrom(Law other) {
            lines = other.lines;
            size = other.size;
            System.arraycopy(other.words, 0, words, 0, MOST_LINES);
            System.arraycopy(other.starts, 0, starts, 0, MOST_LINES);
            System.arraycopy(other.whens, 0, whens, 0, MOST_LINES);
            System.arraycopy(other.ends, 0, ends, 0, MOST_LINES);
            System.arraycopy(other.code, 0, code, 0, Tokens.MOST);
        }
    }

    /** EVENING: its deeds one by one, with what is told again written out. */
    private static final class Evening {
        static final int MOST = 60;
        private static final int MOST_OPEN = 4;

        int deeds;
        final int[] whats = new int[MOST];
        final int[] amounts = new int[MOST];
        private final int[] opened = new int[MOST_OPEN];
        private final int[] times = new int[MOST_OPEN];

        boolean read(Tokens t) {
            deeds = 0;
            int open = 0;
            for (int guard = 0; guard <= Tokens.MOST && t.kind() != Tokens.END; guard++) {
                int kind = t.kind();
                if (kind == Tokens.AGAIN) {
                    if (open >= MOST_OPEN) {
                        return t.refuse(3);
                    }
                    if (!readAgain(t, open)) {
                        return false;
                    }
                    open++;
                } else if (kind == ')' && open > 0) {
                    t.pass();
                    open--;
                    repeat(opened[open], times[open]);
                } else if (!readDeed(t, kind)) {
                    return false;
                }
            }
            if (open > 0) {
                return t.refuse(1);
            }
            return deeds <= MOST || t.refuse(4);
        }

        private boolean readAgain(Tokens t, int open) {
            t.pass();
            int n = t.number(1, 9);
            if (n < 0) {
                return false;
            }
            opened[open] = deeds;
            times[open] = n;
            return t.take('(');
        }

        private boolean readDeed(Tokens t, int kind) {
            int what = what(kind);
            if (what == NONE) {
                return t.refuse(1);
            }
            t.pass();
            int n = 0;
            if (what != TURNED) {
                n = t.number(1, what == HEARD ? 30 : LONGEST_HOLD);
                if (n < 0) {
                    return false;
                }
            }
            append(what, n);
            return true;
        }

        private static int what(int kind) {
            switch (kind) {
                case Tokens.ON:
                    return WOUND_ON;
                case Tokens.BACK:
                    return WOUND_BACK;
                case Tokens.HEAR:
                    return HEARD;
                case Tokens.TURN:
                    return TURNED;
                default:
                    return NONE;
            }
        }

        /** Counts one more than can be kept at most, which is enough to tell that there are too many. */
        private void append(int what, int n) {
            if (deeds < MOST) {
                whats[deeds] = what;
                amounts[deeds] = n;
            }
            deeds = Math.min(deeds + 1, MOST + 1);
        }

        private void repeat(int from, int n) {
            int to = deeds;
            for (int round = 1; round < n; round++) {
                for (int i = from; i < to; i++) {
                    append(i < MOST ? whats[i] : 0, i < MOST ? amounts[i] : 0);
                }
            }
        }

        void copyFrom(Evening other) {
            deeds = other.deeds;
            System.arraycopy(other.whats, 0, whats, 0, MOST);
            System.arraycopy(other.amounts, 0, amounts, 0, MOST);
        }
    }

    /** AFTER: how much each song is wanted after each other. */
    private static final class Afters {
        private static final int MOST_LINES = 16;

        int lines;
        private final int[] wishes = new int[MOST_SONGS * MOST_SONGS];

        /** What is wanted of two SONGS, both 0 .. 13. */
        int wish(int a, int b) {
            int i = a * MOST_SONGS + b;
            return i >= 0 && i < wishes.length ? wishes[i] : 0;
        }

        void forget() {
            lines = 0;
            Arrays.fill(wishes, 0);
        }

        boolean read(Tokens t, int songs) {
            forget();
            for (int guard = 0; guard <= Tokens.MOST && t.kind() != Tokens.END; guard++) {
                if (t.kind() == Tokens.AFTER && lines >= MOST_LINES) {
                    return t.refuse(3);
                }
                if (!t.take(Tokens.AFTER) || !readWish(t, songs) || !t.take(';')) {
                    return false;
                }
                lines++;
            }
            return true;
        }

        private boolean readWish(Tokens t, int songs) {
            int a = t.number(0, songs - 1);
            if (a < 0) {
                return false;
            }
            if (t.isNumber(a)) {
                return t.refuse(2);
            }
            int b = t.number(0, songs - 1);
            if (b < 0 || !t.take(Tokens.WANTS)) {
                return false;
            }
            int n = t.number(0, 99);
            int i = a * MOST_SONGS + b;
            if (n < 0 || i >= wishes.length) {
                return false;
            }
            wishes[i] = n;
            return true;
        }

        void copyFrom(Afters other) {
            lines = other.lines;
            System.arraycopy(other.wishes, 0, wishes, 0, wishes.length);
        }
    }

    /** THE BOOK. How many of its lines there are is told by a Stand, so that undoing takes lines back. */
    private static final class Book {
        static final int COLUMNS = 4;
        private static final int MOST = 150;

        private final int[] entries = new int[MOST * COLUMNS];

        int entry(int line, int column) {
            int i = line * COLUMNS + column;
            return i >= 0 && i < entries.length ? entries[i] : NONE;
        }

        void note(Stand stand, int what, int amount) {
            int i = stand.bookLines * COLUMNS;
            if (i < 0 || i + COLUMNS > entries.length) {
                return;
            }
            entries[i] = stand.stops;
            entries[i + 1] = what;
            entries[i + 2] = amount;
            entries[i + 3] = stand.place;
            stand.bookLines++;
        }

        void copyFrom(Book other) {
            System.arraycopy(other.entries, 0, entries, 0, entries.length);
        }
    }

    /** All that a deed changes, and so all that undoing it brings back. */
    private static final class Stand {
        int side;
        int place;
        int counter;
        int seconds;
        int stops;
        int draws;
        int bookLines;
        final int[] known = new int[STANDS];

        Stand() {
            known[0] = 1;
        }

        void restart() {
            side = 0;
            place = 0;
            counter = 0;
            seconds = 0;
            stops = 0;
            Arrays.fill(known, 0);
            known[0] = 1;
        }

        int draw(int m) {
            draws = draws * 1664525 + 1013904223;
            return m > 0 ? (draws >>> 8) % m : 0;
        }

        void count(int by) {
            counter = Math.floorMod(counter + by, 1000);
        }

        void copyFrom(Stand other) {
            side = other.side;
            place = other.place;
            counter = other.counter;
            seconds = other.seconds;
            stops = other.stops;
            draws = other.draws;
            bookLines = other.bookLines;
            System.arraycopy(other.known, 0, known, 0, STANDS);
        }
    }

    /** All that is and was told but the tape of bytes: what an image keeps. */
    private static final class Deck {
        static final int MOST_WORN = 12;

        final Sides sides = new Sides();
        final Law law = new Law();
        final Evening evening = new Evening();
        final Afters afters = new Afters();
        final Book book = new Book();
        final Stand stand = new Stand();
        int thumb = 1;
        int past = 10;
        int worn;
        private final int[] wornPlaces = new int[MOST_WORN];
        private final int[] wornTimes = new int[MOST_WORN];

        int thumbs() {
            return 2 * thumb + 1;
        }

        void takeTape(Sides told) {
            sides.copyFrom(told);
            stand.restart();
            evening.deeds = 0;
            afters.forget();
        }

        void layAt(int place) {
            stand.place = place;
            Arrays.fill(stand.known, 0);
            if (sides.reaches(place)) {
                stand.known[place] = 1;
            }
            stand.counter = 0;
            book.note(stand, PUT, place);
        }

        void windFor(Runner r, boolean on, int h) {
            r.face(stand.side, stand.stops);
            r.spread(this, on, h);
            int held = h;
            if (thumb > 0) {
                held = Math.max(0, h + stand.draw(thumbs()) - thumb);
            }
            r.press(on, held);
            for (int second = 0; second < held; second++) {
                int slip = r.told(this, stand.place, Law.SLIP);
                int next = r.moved(this, stand.place, r.told(this, stand.place, Law.SPEED));
                if (slip <= 0 || stand.draw(1000) >= slip) {
                    stand.count(next - stand.place);
                }
                stand.place = next;
            }
            int last = r.moved(this, stand.place, r.told(this, stand.place, Law.LATE));
            stand.count(last - stand.place);
            stand.place = last;
            stand.seconds += held + 1;
            stand.stops++;
            book.note(stand, on ? WOUND_ON : WOUND_BACK, held);
        }

        int listen(int n) {
            int last = NONE;
            for (int i = 0; i < n; i++) {
                last = sides.heardAt(stand.side, stand.place);
                keepHeard(last);
                if (stand.place < sides.length) {
                    stand.place++;
                    stand.count(1);
                }
            }
            stand.seconds += n;
            book.note(stand, HEARD, n);
            return last;
        }

        /** Goes downwards, so that a place moved one further is not met again. */
        private void keepHeard(int what) {
            for (int place = sides.length; place >= 0; place--) {
                boolean kept = stand.known[place] == 1 && sides.heardAt(stand.side, place) == what;
                stand.known[place] = 0;
                if (kept) {
                    stand.known[Math.min(place + 1, sides.length)] = 1;
                }
            }
        }

        void turnOver() {
            stand.side = 1 - stand.side;
            stand.place = sides.length - stand.place;
            for (int a = 0, b = sides.length; a < b; a++, b--) {
                int swapped = stand.known[a];
                stand.known[a] = stand.known[b];
                stand.known[b] = swapped;
            }
            stand.seconds += 8;
            stand.counter = 0;
            book.note(stand, TURNED, 0);
        }

        int countKnown() {
            int many = 0;
            for (int place = 0; place <= sides.length; place++) {
                many += stand.known[place];
            }
            return many;
        }

        boolean mayHear(int what) {
            for (int place = 0; place <= sides.length; place++) {
                if (stand.known[place] == 1 && sides.heardAt(stand.side, place) == what) {
                    return true;
                }
            }
            return false;
        }

        int songsNext() {
            int set = 0;
            for (int place = 0; place <= sides.length; place++) {
                int what = sides.heardAt(stand.side, place);
                if (stand.known[place] == 1 && sides.hasSong(what)) {
                    set |= 1 << what;
                }
            }
            return set;
        }

        /** Keeps a line of its own for each telling, for a place told before, too. */
        boolean wearAt(int place, int n) {
            if (worn >= MOST_WORN) {
                return false;
            }
            wornPlaces[worn] = place;
            wornTimes[worn] = n;
            worn++;
            return true;
        }

        int wearNear(int begin) {
            int sum = 0;
            for (int i = 0; i < worn; i++) {
                if (Math.abs(wornPlaces[i] - begin) <= 3) {
                    sum += wornTimes[i];
                }
            }
            return sum;
        }

        int mostSought() {
            int first = sides.firstOn(stand.side);
            int best = NONE;
            int greatest = NONE;
            for (int s = first; s < first + sides.songsOn(stand.side); s++) {
                int sum = wearNear(sides.begins[s]);
                if (sum > greatest) {
                    greatest = sum;
                    best = s;
                }
            }
            return best;
        }

        void copyFrom(Deck other) {
            sides.copyFrom(other.sides);
            law.copyFrom(other.law);
            evening.copyFrom(other.evening);
            afters.copyFrom(other.afters);
            book.copyFrom(other.book);
            stand.copyFrom(other.stand);
            thumb = other.thumb;
            past = other.past;
            worn = other.worn;
            System.arraycopy(other.wornPlaces, 0, wornPlaces, 0, MOST_WORN);
            System.arraycopy(other.wornTimes, 0, wornTimes, 0, MOST_WORN);
        }
    }

    /** A winding on one side, one way, held so long: what THE LAW tells of it, each place asked once. */
    private static final class Runner {
        private final int[] asked = new int[Law.VARIABLES];
        private final int[][] answers = new int[Law.WORDS][STANDS];
        private final int[][] stamps = new int[Law.WORDS][STANDS];
        private final int[] reached = new int[STANDS];
        private int stamp;
        private int side;
        private int stops;
        private boolean on;
        private int hold;

        void face(int newSide, int newStops) {
            side = newSide;
            stops = newStops;
        }

        void press(boolean newOn, int newHold) {
            on = newOn;
            hold = newHold;
            stamp++;
        }

        int told(Deck d, int place, int word) {
            if (word < 0 || word >= Law.WORDS || !d.sides.reaches(place)) {
                return 0;
            }
            if (stamps[word][place] != stamp) {
                int length = d.sides.length;
                int heard = d.sides.heardAt(side, place);
                asked[Law.AT] = place;
                asked[Law.FULL] = length == 0 ? 0 : 99 * place / length;
                asked[Law.ON] = on ? 1 : 0;
                asked[Law.HOLD] = hold;
                asked[Law.SIDE] = side;
                asked[Law.SONG] = d.sides.hasSong(heard) ? heard : 99;
                asked[Law.STOPS] = stops;
                answers[word][place] = d.law.tell(word, asked);
                stamps[word][place] = stamp;
            }
            return answers[word][place];
        }

        int moved(Deck d, int place, int by) {
            return on ? Math.min(place + by, d.sides.length) : Math.max(place - by, 0);
        }

        /** Where it would stand. As speed is above 0, a second without a move is at an end. */
        int reach(Deck d, int from) {
            int place = from;
            for (int second = 0; second < hold; second++) {
                int next = moved(d, place, told(d, place, Law.SPEED));
                if (next == place) {
                    break;
                }
                place = next;
            }
            return moved(d, place, told(d, place, Law.LATE));
        }

        /** Each KNOWN place with each THUMB. */
        void spread(Deck d, boolean newOn, int h) {
            Arrays.fill(reached, 0);
            for (int held = Math.max(0, h - d.thumb); held <= h + d.thumb; held++) {
                press(newOn, held);
                for (int place = 0; place <= d.sides.length; place++) {
                    if (d.stand.known[place] == 1) {
                        reached[Math.max(0, Math.min(reach(d, place), LONGEST))] = 1;
                    }
                }
            }
            System.arraycopy(reached, 0, d.stand.known, 0, STANDS);
        }
    }

    /** What is reckoned about windings, without any draw. */
    private static final class Thought {
        private static final int LONGEST_TELLING = 20;
        private static final int TELLING_HOLDS = 25;
        private static final int HEARINGS = 16;

        // Where it would stand from one place, wound on and back, by how long it is held.
        private final int[] ahead = new int[HOLDS];
        private final int[] behind = new int[HOLDS];
        private int from;
        int sum;
        int hold;
        int forward;
        private int before;
        private final int[] tallies = new int[2 * TELLING_HOLDS * HEARINGS];
        private final int[] evening = new int[4];

        void gather(Deck d, Runner r, int side, int place) {
            from = place;
            r.face(side, d.stand.stops);
            for (int h = 0; h < HOLDS; h++) {
                r.press(true, h);
                ahead[h] = r.reach(d, place);
                r.press(false, h);
                behind[h] = r.reach(d, place);
            }
        }

        private int ending(boolean on, int held) {
            int h = Math.max(0, Math.min(HOLDS - 1, held));
            return on ? ahead[h] : behind[h];
        }

        private int windingSum(Deck d, boolean on, int h, int begin) {
            int all = 0;
            for (int slack = -d.thumb; slack <= d.thumb; slack++) {
                int held = Math.max(0, h + slack);
                int left = begin - ending(on, held);
                all += held + 1 + (left >= 0 ? left : d.past - 2 * left);
            }
            return all;
        }

        private int playingSum(Deck d, int begin) {
            return (begin - from) * d.thumbs();
        }

        void seek(Deck d, int begin) {
            sum = HUGE;
            if (from <= begin) {
                keep(playingSum(d, begin), 0, 1, 0);
            }
            for (int h = 1; h <= LONGEST_HOLD; h++) {
                keep(windingSum(d, true, h, begin), h, 1, begin - ahead[h]);
                keep(windingSum(d, false, h, begin), h, 0, begin - behind[h]);
            }
        }

        private void keep(int newSum, int newHold, int newForward, int newBefore) {
            if (newSum < sum) {
                sum = newSum;
                hold = newHold;
                forward = newForward;
                before = newBefore;
            }
        }

        int found(int what, int more) {
            switch (what) {
                case 0:
                    return sum + more;
                case 1:
                    return hold;
                case 2:
                    return forward;
                default:
                    return before;
            }
        }

        /** RULE of b. */
        long cost(Deck d, int b) {
            long all = 0;
            int first = d.sides.firstOn(d.stand.side);
            for (int s = first; s < first + d.sides.songsOn(d.stand.side); s++) {
                all += (long) d.sides.wanted[s] * ruledSum(d, d.sides.begins[s], b);
            }
            return all;
        }

        private int ruledSum(Deck d, int begin, int b) {
            int goal = Math.max(0, begin - b);
            if (from > begin) {
                return windingSum(d, false, leastHold(false, goal), begin);
            }
            if (from >= goal) {
                return playingSum(d, begin);
            }
            return windingSum(d, true, leastHold(true, goal), begin);
        }

        private int leastHold(boolean on, int goal) {
            for (int h = 1; h < LONGEST_HOLD; h++) {
                if (on ? ahead[h] >= goal : behind[h] <= goal) {
                    return h;
                }
            }
            return LONGEST_HOLD;
        }

        int cheapest(Deck d) {
            int best = 0;
            long least = cost(d, 0);
            for (int b = 1; b <= 30; b++) {
                long cost = cost(d, b);
                if (cost < least) {
                    least = cost;
                    best = b;
                }
            }
            return best;
        }

        /** TELLS, of what was tallied: leaves it in hold, forward and sum. */
        void findTelling(Deck d) {
            sum = HUGE;
            for (int h = 1; h <= LONGEST_TELLING; h++) {
                keep(greatest(d, 1, h), h, 1, 0);
                keep(greatest(d, 0, h), h, 0, 0);
            }
        }

        private static int tallyRow(int on, int held) {
            return (on * TELLING_HOLDS + held) * HEARINGS;
        }

        /** Of each way and holding, how many known places come to hear each thing. */
        void tally(Deck d, Runner r) {
            Arrays.fill(tallies, 0);
            r.face(d.stand.side, d.stand.stops);
            for (int on = 0; on <= 1; on++) {
                for (int held = 0; held <= LONGEST_TELLING + d.thumb; held++) {
                    r.press(on == 1, held);
                    tallyEnds(d, r, tallyRow(on, held));
                }
            }
        }

        private void tallyEnds(Deck d, Runner r, int row) {
            for (int place = 0; place <= d.sides.length; place++) {
                if (d.stand.known[place] == 1) {
                    int heard = d.sides.heardAt(d.stand.side, r.reach(d, place));
                    int i = row + (heard < MOST_SONGS ? heard : heard - GAP_HEARD + MOST_SONGS);
                    if (i >= 0 && i < tallies.length) {
                        tallies[i]++;
                    }
                }
            }
        }

        private int greatest(Deck d, int on, int h) {
            int most = 0;
            for (int heard = 0; heard < HEARINGS; heard++) {
                int many = 0;
                for (int slack = -d.thumb; slack <= d.thumb; slack++) {
                    int i = tallyRow(on, Math.max(0, h + slack)) + heard;
                    many += i >= 0 && i < tallies.length ? tallies[i] : 0;
                }
                most = Math.max(most, many);
            }
            return most;
        }

        /** GOES. */
        void passEvening(Deck d, Runner r) {
            int side = d.stand.side;
            int place = d.stand.place;
            int stops = d.stand.stops;
            int seconds = 0;
            int winding = 0;
            Evening told = d.evening;
            for (int i = 0; i < told.deeds && i < Evening.MOST; i++) {
                int n = told.amounts[i];
                if (told.whats[i] == TURNED) {
                    side = 1 - side;
                    place = d.sides.length - place;
                    seconds += 8;
                } else if (told.whats[i] == HEARD) {
                    place = Math.min(place + n, d.sides.length);
                    seconds += n;
                } else {
                    r.face(side, stops);
                    r.press(told.whats[i] == WOUND_ON, n);
                    place = r.reach(d, place);
                    stops++;
                    seconds += n + 1;
                    winding += n + 1;
                }
            }
            evening[0] = side;
            evening[1] = place;
            evening[2] = seconds;
            evening[3] = winding;
        }

        int passed(int what) {
            return what >= 0 && what < evening.length ? evening[what] : NONE;
        }
    }

    /** What is reckoned about songs: which to mark, in which order and on which side to record them. */
    private static final class Plans {
        static final int MOST_ORDERED = 8;
        static final int MOST_LAID = 12;

        int least;
        int chosen;
        private final int[] costs = new int[1 << MOST_ORDERED];
        private final int[] nexts = new int[1 << MOST_ORDERED];
        private final int[] songs = new int[MOST_ORDERED];

        /** CARD: leaves the sum in least, the set in chosen. */
        void mark(Sides sides, int k) {
            int many = sides.songsOn(0);
            int marks = Math.min(k, many);
            least = HUGE;
            chosen = 0;
            for (int set = 0; set < 1 << many; set++) {
                if (Integer.bitCount(set) == marks) {
                    int sum = playedFromMarks(sides, set);
                    if (sum < least) {
                        least = sum;
                        chosen = set;
                    }
                }
            }
        }

        private static int playedFromMarks(Sides sides, int set) {
            int sum = 0;
            int mark = 0;
            for (int s = 0; s < sides.songsOn(0); s++) {
                if ((set >> s & 1) == 1) {
                    mark = sides.begins[s];
                }
                sum += sides.wanted[s] * (sides.begins[s] - mark);
            }
            return sum;
        }

        /**
         * ORDER. The PLACES between two songs are those of all songs in between, so each song adds what
         * hangs on the set of songs ahead of it alone: costs by that set, the fullest first.
         */
        void arrange(Deck d) {
            int many = Math.min(d.sides.songsOn(d.stand.side), MOST_ORDERED);
            int first = d.sides.firstOn(d.stand.side);
            int all = (1 << many) - 1;
            costs[all] = 0;
            for (int ahead = all - 1; ahead >= 0; ahead--) {
                costs[ahead] = HUGE;
                for (int i = 0; i < many; i++) {
                    if ((ahead >> i & 1) == 0) {
                        int cost = costs[ahead | 1 << i] + crossed(d, first, many, ahead, i);
                        if (cost < costs[ahead]) {
                            costs[ahead] = cost;
                            nexts[ahead] = i;
                        }
                    }
                }
            }
            least = costs[0];
            int ahead = 0;
            for (int i = 0; i < many; i++) {
                songs[i] = first + nexts[ahead];
                ahead |= 1 << nexts[ahead];
            }
        }

        /** What it costs that one song lies behind those ahead and before the rest. */
        private static int crossed(Deck d, int first, int many, int ahead, int i) {
            int wish = 0;
            for (int a = 0; a < many; a++) {
                for (int b = 0; b < many; b++) {
                    // From a song recorded later back to one ahead of it, both are crossed, too.
                    boolean aLate = (ahead >> a & 1) == 0;
                    boolean bLate = (ahead >> b & 1) == 0;
                    boolean forth = !aLate && bLate && b != i;
                    boolean back = aLate && (!bLate || b == i) && a != b;
                    if (forth || back) {
                        wish += d.afters.wish(first + a, first + b);
                    }
                }
            }
            return wish * d.sides.longs[first + i];
        }

        int orderedSong(int i) {
            return i >= 0 && i < songs.length ? songs[i] : NONE;
        }

        /** HALVES: whether there is a way; leaves the difference in least, the set in chosen. */
        boolean halve(Sides sides) {
            int whole = 0;
            for (int s = 0; s < sides.songs; s++) {
                whole += sides.longs[s];
            }
            least = HUGE;
            chosen = 0;
            for (int set = 0; set < 1 << Math.min(sides.songs, MOST_LAID); set++) {
                int laid = 0;
                for (int s = 0; s < sides.songs; s++) {
                    laid += (set >> s & 1) * sides.longs[s];
                }
                int difference = Math.abs(whole - 2 * laid);
                if (laid <= LONGEST && whole - laid <= LONGEST && difference < least) {
                    least = difference;
                    chosen = set;
                }
            }
            return least != HUGE;
        }
    }
}
