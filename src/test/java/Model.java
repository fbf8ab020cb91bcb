import java.util.ArrayList;
import java.util.Arrays;
import java.util.List;
import java.util.TreeSet;

/**
 * The document read a second time, as slowly and plainly as can be: trees for texts, copies for
 * undoing, every order and every set tried. RandomRuns holds WoundTape against it.
 */
final class Model implements Cloneable {
    static final int NONE = -1;

    static final class Fault extends RuntimeException {
        final int number;
        final int place;

        Fault(int number, int place) {
            this.number = number;
            this.place = place;
        }
    }

    record Song(int side, int begins, int length, int wanted) { }

    record Deed(int what, int n) { }

    record Line(String word, Node e, Node when) { }

    /** A leaf has a word or number; the rest a sign and parts. */
    record Node(String sign, Node a, Node b) { }

    // THE TAPE of bytes and faults.
    List<Integer> bytes = new ArrayList<>();
    int fault;
    int faultPlace = NONE;
    // What was told.
    int length;
    List<Song> songs = List.of();
    List<Line> law = List.of();
    List<Deed> deeds = List.of();
    List<int[]> afters = List.of();
    List<int[]> worn = List.of();
    int thumb = 1;
    int past = 10;
    // What is.
    int side;
    int place;
    int counter;
    int seconds;
    int stops;
    int draws;
    TreeSet<Integer> known = new TreeSet<>(List.of(0));
    List<int[]> book = List.of();
    // What was.
    List<Model> undos = new ArrayList<>();
    Model image;

    private Model copy() {
        try {
            Model m = (Model) clone();
            m.known = new TreeSet<>(known);
            return m;
        } catch (CloneNotSupportedException e) {
            throw new IllegalStateException(e);
        }
    }

    private void takeAll(Model m) {
        length = m.length;
        songs = m.songs;
        law = m.law;
        deeds = m.deeds;
        afters = m.afters;
        worn = m.worn;
        thumb = m.thumb;
        past = m.past;
        takeStand(m);
    }

    private void takeStand(Model m) {
        side = m.side;
        place = m.place;
        counter = m.counter;
        seconds = m.seconds;
        stops = m.stops;
        draws = m.draws;
        known = new TreeSet<>(m.known);
        book = m.book;
    }

    private void remember() {
        undos.add(copy());
        if (undos.size() > 6) {
            undos.remove(0);
        }
    }

    int state(int v) {
        int was = draws;
        draws = v;
        undos.clear();
        return was;
    }

    boolean set(int what, int v) {
        if (what < 0 || what > 1 || v < 0 || v > (what == 0 ? 4 : 99)) {
            return false;
        }
        if (what == 0) {
            thumb = v;
        } else {
            past = v;
        }
        undos.clear();
        return true;
    }

    private boolean stands(int p) {
        return 0 <= p && p <= length;
    }

    boolean put(int p) {
        if (!stands(p)) {
            return false;
        }
        remember();
        place = p;
        known = new TreeSet<>(List.of(p));
        counter = 0;
        note(4, p);
        return true;
    }

    private void note(int what, int n) {
        if (book.size() < 150) {
            List<int[]> more = new ArrayList<>(book);
            more.add(new int[] {stops, what, n, place});
            book = more;
        }
    }

    private int draw(int m) {
        draws = 1664525 * draws + 1013904223;
        return (int) (((draws & 0xffffffffL) >> 8) % m);
    }

    int wind(boolean on, int h) {
        if (h < 1 || h > 60) {
            return NONE;
        }
        remember();
        doWind(on, h);
        return place;
    }

    private void go(int to, boolean counts) {
        int target = Math.max(0, Math.min(length, to));
        if (counts) {
            counter = ((counter + target - place) % 1000 + 1000) % 1000;
        }
        place = target;
    }

    private void doWind(boolean on, int h) {
        int held = h;
        if (thumb > 0) {
            held = Math.max(0, h + draw(2 * thumb + 1) - thumb);
        }
        TreeSet<Integer> then = new TreeSet<>();
        for (int k : known) {
            for (int d = -thumb; d <= thumb; d++) {
                then.add(run(side, k, on, Math.max(0, h + d), stops));
            }
        }
        known = then;
        int way = on ? 1 : -1;
        for (int s = 0; s < held; s++) {
            int slip = tell("slip", side, place, on, held, stops);
            int speed = tell("speed", side, place, on, held, stops);
            boolean counts = slip == 0 || draw(1000) >= slip;
            go(place + way * speed, counts);
        }
        go(place + way * tell("late", side, place, on, held, stops), true);
        seconds += held + 1;
        stops++;
        note(on ? 0 : 1, held);
    }

    private int heardOn(int s, int p) {
        if (p >= length) {
            return 99;
        }
        for (int i = 0; i < songs.size(); i++) {
            Song g = songs.get(i);
            if (g.side == s && p >= g.begins && p < g.begins + g.length) {
                return i;
            }
        }
        return 98;
    }

    int hear(int n) {
        if (n < 1 || n > 30) {
            return NONE;
        }
        remember();
        return doHear(n);
    }

    private int doHear(int n) {
        int last = NONE;
        for (int i = 0; i < n; i++) {
            last = heardOn(side, place);
            TreeSet<Integer> then = new TreeSet<>();
            for (int k : known) {
                if (heardOn(side, k) == last) {
                    then.add(Math.min(length, k + 1));
                }
            }
            known = then;
            go(place + 1, true);
        }
        seconds += n;
        note(2, n);
        return last;
    }

    int turn() {
        remember();
        doTurn();
        return place;
    }

    private void doTurn() {
        side = 1 - side;
        place = length - place;
        TreeSet<Integer> then = new TreeSet<>();
        for (int k : known) {
            then.add(length - k);
        }
        known = then;
        seconds += 8;
        counter = 0;
        note(3, 0);
    }

    int evening() {
        remember();
        for (Deed d : deeds) {
            switch (d.what) {
                case 0 -> doWind(true, d.n);
                case 1 -> doWind(false, d.n);
                case 2 -> doHear(d.n);
                default -> doTurn();
            }
        }
        return deeds.size();
    }

    int feed(int... five) {
        if (bytes.size() + 20 > 400) {
            return NONE;
        }
        for (int n : five) {
            for (int i = 3; i >= 0; i--) {
                bytes.add((n >> 8 * i) & 0xff);
            }
        }
        return bytes.size();
    }

    boolean end(int n) {
        if (n < 0 || n > bytes.size()) {
            return false;
        }
        bytes = new ArrayList<>(bytes.subList(0, n));
        return true;
    }

    // ---- texts

    private static final List<List<String>> KEYWORDS = List.of(
        List.of("song", "wants", "gap", "turn"),
        List.of("speed", "late", "slip", "when", "or", "and", "not", "at", "full", "on", "hold", "side",
            "song", "stops"),
        List.of("on", "back", "hear", "turn", "again"),
        List.of("after", "wants"));

    private List<String> words;
    private List<Integer> places;
    private int next;

    private void cut(int k) {
        StringBuilder b = new StringBuilder();
        for (int c : bytes) {
            b.append((char) c);
        }
        String text = b.toString();
        words = new ArrayList<>();
        places = new ArrayList<>();
        java.util.regex.Matcher m =
            java.util.regex.Pattern.compile("[A-Za-z]+|[0-9]+|[ \\n]+|.", java.util.regex.Pattern.DOTALL).matcher(text);
        while (m.find()) {
            String w = m.group();
            if (w.charAt(0) == ' ' || w.charAt(0) == '\n') {
                continue;
            }
            boolean good = w.matches("[0-9]{1,4}") || w.matches("[;+*/()<=>-]") || KEYWORDS.get(k).contains(w);
            words.add(good ? w : "?");
            places.add(m.start());
        }
        words.add("");
        places.add(text.length());
        next = 0;
    }

    private String word() {
        return words.get(next);
    }

    private Fault bad(int number) {
        return new Fault(number, places.get(next));
    }

    private String need(String... any) {
        for (String w : any) {
            if (word().equals(w)) {
                next++;
                return w;
            }
        }
        throw bad(1);
    }

    private boolean have(String w) {
        if (!word().equals(w)) {
            return false;
        }
        next++;
        return true;
    }

    private int number(int least, int most) {
        if (word().isEmpty() || !Character.isDigit(word().charAt(0))) {
            throw bad(1);
        }
        int n = Integer.parseInt(word());
        if (n < least || n > most) {
            throw bad(2);
        }
        next++;
        return n;
    }

    int text(int k) {
        fault = 0;
        faultPlace = NONE;
        int answer = NONE;
        if (k >= 0 && k <= 3) {
            cut(k);
            try {
                answer = k == 0 ? tape() : k == 1 ? lawText() : k == 2 ? eveningText() : afterText();
            } catch (Fault f) {
                fault = f.number;
                faultPlace = f.place;
            }
        }
        bytes = new ArrayList<>();
        return answer;
    }

    private int tape() {
        List<Song> list = new ArrayList<>();
        int[] lengths = new int[2];
        int lines = 0;
        int s = 0;
        while (!word().isEmpty()) {
            if (s == 0 && have("turn")) {
                need(";");
                s = 1;
                continue;
            }
            String w = word();
            if (!w.equals("song") && !w.equals("gap")) {
                throw bad(1);
            }
            lines++;
            if (lines == 21 || w.equals("song") && list.size() == 14) {
                throw bad(3);
            }
            next++;
            int n = number(1, 60);
            if (w.equals("song")) {
                need("wants");
                list.add(new Song(s, lengths[s], n, number(0, 99)));
            }
            need(";");
            lengths[s] += n;
        }
        if (lengths[0] > 200 || lengths[1] > 200) {
            throw bad(4);
        }
        length = Math.max(lengths[0], lengths[1]);
        songs = list;
        deeds = List.of();
        afters = List.of();
        side = 0;
        place = 0;
        counter = 0;
        seconds = 0;
        stops = 0;
        known = new TreeSet<>(List.of(0));
        undos.clear();
        return list.size();
    }

    private int lawText() {
        List<Line> list = new ArrayList<>();
        while (!word().isEmpty()) {
            if (list.size() == 16 && List.of("speed", "late", "slip").contains(word())) {
                throw bad(3);
            }
            String w = need("speed", "late", "slip");
            Node e = e();
            Node when = have("when") ? b(0) : null;
            need(";");
            list.add(new Line(w, e, when));
        }
        law = list;
        return list.size();
    }

    private Node b(int open) {
        Node n = a(open);
        while (have("or")) {
            n = new Node("or", n, a(open));
        }
        return n;
    }

    private Node a(int open) {
        Node n = c(open);
        while (have("and")) {
            n = new Node("and", n, c(open));
        }
        return n;
    }

    private Node c(int open) {
        if (word().equals("not") || word().equals("(")) {
            if (open == 8) {
                throw bad(3);
            }
            if (have("not")) {
                return new Node("not", c(open + 1), null);
            }
            next++;
            Node n = b(open + 1);
            need(")");
            return n;
        }
        Node left = e();
        String sign = need("<", "=", ">");
        return new Node(sign, left, e());
    }

    private Node e() {
        Node n = t();
        while (word().equals("+") || word().equals("-")) {
            String sign = need("+", "-");
            n = new Node(sign, n, t());
        }
        return n;
    }

    private Node t() {
        Node n = u();
        while (word().equals("*") || word().equals("/")) {
            String sign = need("*", "/");
            n = new Node(sign, n, sign.equals("*") ? u() : new Node("" + number(1, 9999), null, null));
        }
        return n;
    }

    private Node u() {
        if (List.of("at", "full", "on", "hold", "side", "song", "stops").contains(word())) {
            return new Node(words.get(next++), null, null);
        }
        return new Node("" + number(0, 9999), null, null);
    }

    private int eveningText() {
        List<Deed> list = deedList(0);
        if (!word().isEmpty()) {
            throw bad(1);
        }
        if (list.size() > 60) {
            throw bad(4);
        }
        deeds = list;
        undos.clear();
        return list.size();
    }

    private List<Deed> deedList(int open) {
        List<Deed> list = new ArrayList<>();
        while (true) {
            String w = word();
            if (w.equals("on") || w.equals("back")) {
                next++;
                list.add(new Deed(w.equals("on") ? 0 : 1, number(1, 60)));
            } else if (w.equals("hear")) {
                next++;
                list.add(new Deed(2, number(1, 30)));
            } else if (w.equals("turn")) {
                next++;
                list.add(new Deed(3, 0));
            } else if (w.equals("again")) {
                if (open == 4) {
                    throw bad(3);
                }
                next++;
                int n = number(1, 9);
                need("(");
                List<Deed> inner = deedList(open + 1);
                need(")");
                for (int i = 0; i < n; i++) {
                    list.addAll(inner);
                }
            } else {
                return list;
            }
        }
    }

    private int afterText() {
        List<int[]> list = new ArrayList<>();
        while (!word().isEmpty()) {
            if (word().equals("after") && list.size() == 16) {
                throw bad(3);
            }
            need("after");
            int a = number(0, songs.size() - 1);
            if (word().matches("[0-9]+") && Integer.parseInt(word()) == a) {
                throw bad(2);
            }
            int b = number(0, songs.size() - 1);
            need("wants");
            int n = number(0, 99);
            need(";");
            list.add(new int[] {a, b, n});
        }
        afters = list;
        return list.size();
    }

    int fault(int what) {
        return what == 0 ? fault : what == 1 ? faultPlace : NONE;
    }

    // ---- asked

    int song(int s, int what) {
        if (s < 0 || s >= songs.size()) {
            return NONE;
        }
        Song g = songs.get(s);
        return what == 0 ? g.side : what == 1 ? g.begins : what == 2 ? g.length : what == 3 ? g.wanted : NONE;
    }

    int at(int s, int p) {
        return s < 0 || s > 1 || !stands(p) ? NONE : heardOn(s, p);
    }

    int after(int a, int b) {
        if (a < 0 || b < 0 || a >= songs.size() || b >= songs.size() || a == b) {
            return NONE;
        }
        int n = 0;
        for (int[] line : afters) {
            if (line[0] == a && line[1] == b) {
                n = line[2];
            }
        }
        return n;
    }

    int known(int p) {
        return !stands(p) ? NONE : known.contains(p) ? 1 : 0;
    }

    private int value(Node n, int s, int p, boolean on, int hold, int st) {
        int a = n.a == null ? 0 : value(n.a, s, p, on, hold, st);
        int b = n.b == null ? 0 : value(n.b, s, p, on, hold, st);
        switch (n.sign) {
            case "+": return a + b;
            case "-": return a - b;
            case "*": return a * b;
            case "/": return a / b;
            case "<": return a < b ? 1 : 0;
            case "=": return a == b ? 1 : 0;
            case ">": return a > b ? 1 : 0;
            case "and": return a * b;
            case "or": return a + b > 0 ? 1 : 0;
            case "not": return a == 0 ? 1 : 0;
            case "at": return p;
            case "full": return length == 0 ? 0 : 99 * p / length;
            case "on": return on ? 1 : 0;
            case "hold": return hold;
            case "side": return s;
            case "song": return heardOn(s, p) >= 98 ? 99 : heardOn(s, p);
            case "stops": return st;
            default: return Integer.parseInt(n.sign);
        }
    }

    private int tell(String word, int s, int p, boolean on, int hold, int st) {
        for (Line l : law) {
            if (l.word.equals(word) && (l.when == null || value(l.when, s, p, on, hold, st) != 0)) {
                int v = value(l.e, s, p, on, hold, st);
                int least = word.equals("speed") ? 1 : 0;
                int most = word.equals("speed") ? 30 : word.equals("late") ? 9 : 1000;
                return v < least ? least : v > most ? most : v;
            }
        }
        return word.equals("speed") ? 2 + (length == 0 ? 0 : 99 * p / length) / 20 : word.equals("late") ? 1 : 0;
    }

    private int run(int s, int p, boolean on, int h, int st) {
        int way = on ? 1 : -1;
        int q = p;
        for (int i = 0; i < h; i++) {
            q = Math.max(0, Math.min(length, q + way * tell("speed", s, q, on, h, st)));
        }
        return Math.max(0, Math.min(length, q + way * tell("late", s, q, on, h, st)));
    }

    int lawAt(int p, boolean on, int h, int what) {
        if (!stands(p) || h < 0 || h > 64 || what < 0 || what > 2) {
            return NONE;
        }
        return tell(List.of("speed", "late", "slip").get(what), side, p, on, h, stops);
    }

    int book(int i, int what) {
        return i < 0 || i >= book.size() || what < 0 || what > 3 ? NONE : book.get(i)[what];
    }

    int runs(int p, boolean on, int h) {
        return !stands(p) || h < 0 || h > 64 ? NONE : run(side, p, on, h, stops);
    }

    private int windSum(int s, int p, boolean on, int h, int begin) {
        int sum = 0;
        for (int d = -thumb; d <= thumb; d++) {
            int held = Math.max(0, h + d);
            int q = run(s, p, on, held, stops);
            sum += held + 1;
            sum += q <= begin ? begin - q : past + 2 * (q - begin);
        }
        return sum;
    }

    private int[] soonestOn(int s, int p, int begin) {
        int[] best = null;
        if (p <= begin) {
            best = new int[] {(begin - p) * (2 * thumb + 1), 0, 1, 0};
        }
        for (int h = 1; h <= 60; h++) {
            for (int on = 1; on >= 0; on--) {
                int sum = windSum(s, p, on == 1, h, begin);
                if (best == null || sum < best[0]) {
                    best = new int[] {sum, h, on, begin - run(s, p, on == 1, h, stops)};
                }
            }
        }
        return best;
    }

    int soonest(int p, int g, int what) {
        if (!stands(p) || what < 0 || what > 3 || song(g, 0) != side) {
            return -1000;
        }
        return soonestOn(side, p, songs.get(g).begins)[what];
    }

    int turned(int g, int what) {
        if (what < 0 || what > 2 || song(g, 0) != 1 - side) {
            return NONE;
        }
        int more = what == 0 ? 8 * (2 * thumb + 1) : 0;
        return soonestOn(1 - side, length - place, songs.get(g).begins)[what] + more;
    }

    int unsure(int what) {
        int set = 0;
        boolean gap = false;
        boolean end = false;
        for (int k : known) {
            int heard = heardOn(side, k);
            gap |= heard == 98;
            end |= heard == 99;
            set |= heard < 98 ? 1 << heard : 0;
        }
        return what == 0 ? known.size() : what == 1 ? set : what == 2 ? (gap ? 1 : 0) : what == 3 ? (end ? 1 : 0) : NONE;
    }

    int tells(int what) {
        int[] best = null;
        for (int h = 1; h <= 20; h++) {
            for (int on = 1; on >= 0; on--) {
                int[] counts = new int[100];
                int most = 0;
                for (int k : known) {
                    for (int d = -thumb; d <= thumb; d++) {
                        int heard = heardOn(side, run(side, k, on == 1, Math.max(0, h + d), stops));
                        counts[heard]++;
                        most = Math.max(most, counts[heard]);
                    }
                }
                if (best == null || most < best[2]) {
                    best = new int[] {h, on, most};
                }
            }
        }
        return what < 0 || what > 2 ? NONE : best[what];
    }

    int card(int k, int what) {
        if (k < 1 || k > 6 || what < 0 || what > 1) {
            return NONE;
        }
        List<Integer> mine = songsOf(0);
        int want = Math.min(k, mine.size());
        int bestSum = -1;
        int bestSet = 0;
        for (int set = 0; set < 1 << mine.size(); set++) {
            if (Integer.bitCount(set) != want) {
                continue;
            }
            int sum = 0;
            for (int s : mine) {
                int from = 0;
                for (int m : mine) {
                    int begin = songs.get(m).begins;
                    if ((set & 1 << m) != 0 && begin <= songs.get(s).begins) {
                        from = Math.max(from, begin);
                    }
                }
                sum += songs.get(s).wanted * (songs.get(s).begins - from);
            }
            if (bestSum < 0 || sum < bestSum) {
                bestSum = sum;
                bestSet = set;
            }
        }
        return what == 0 ? bestSum : bestSet;
    }

    private List<Integer> songsOf(int s) {
        List<Integer> list = new ArrayList<>();
        for (int i = 0; i < songs.size(); i++) {
            if (songs.get(i).side == s) {
                list.add(i);
            }
        }
        return list;
    }

    private int bestOrderSum;
    private List<Integer> bestOrder;

    int order(int what) {
        List<Integer> mine = songsOf(side);
        if (mine.size() > 8 || what != 0 && (what < 10 || what - 10 >= mine.size())) {
            return NONE;
        }
        bestOrder = null;
        orders(new ArrayList<>(), mine);
        return what == 0 ? bestOrderSum : bestOrder.get(what - 10);
    }

    private void orders(List<Integer> laid, List<Integer> rest) {
        if (rest.isEmpty()) {
            int sum = orderSum(laid);
            if (bestOrder == null || sum < bestOrderSum) {
                bestOrderSum = sum;
                bestOrder = new ArrayList<>(laid);
            }
        }
        for (int s : rest) {
            List<Integer> less = new ArrayList<>(rest);
            less.remove((Integer) s);
            laid.add(s);
            orders(laid, less);
            laid.remove(laid.size() - 1);
        }
    }

    private int orderSum(List<Integer> laid) {
        int[] begins = new int[14];
        int at = 0;
        for (int s : laid) {
            begins[s] = at;
            at += songs.get(s).length;
        }
        int sum = 0;
        for (int a : laid) {
            for (int b : laid) {
                if (a != b) {
                    sum += after(a, b) * Math.abs(begins[a] + songs.get(a).length - begins[b]);
                }
            }
        }
        return sum;
    }

    int halves(int what) {
        if (songs.size() > 12 || what < 0 || what > 1) {
            return NONE;
        }
        int[] best = null;
        for (int set = 0; set < 1 << songs.size(); set++) {
            int[] two = new int[2];
            for (int i = 0; i < songs.size(); i++) {
                two[(set & 1 << i) != 0 ? 0 : 1] += songs.get(i).length;
            }
            int d = Math.abs(two[0] - two[1]);
            if (two[0] <= 200 && two[1] <= 200 && (best == null || d < best[0])) {
                best = new int[] {d, set};
            }
        }
        return best == null ? NONE : best[what];
    }

    int worn(int p, int n) {
        if (p == NONE) {
            worn = List.of();
            return 0;
        }
        if (!stands(p) || n < 1 || n > 99 || worn.size() == 12) {
            return NONE;
        }
        List<int[]> more = new ArrayList<>(worn);
        more.add(new int[] {p, n});
        worn = more;
        return worn.size();
    }

    int sought(int g) {
        if (song(g, 0) != side) {
            return NONE;
        }
        int sum = 0;
        for (int[] w : worn) {
            if (Math.abs(w[0] - songs.get(g).begins) < 4) {
                sum += w[1];
            }
        }
        return sum;
    }

    int most() {
        int best = NONE;
        for (int s : songsOf(side)) {
            if (best == NONE || sought(s) > sought(best)) {
                best = s;
            }
        }
        return best;
    }

    long rule(int b) {
        if (b < 0 || b > 30) {
            return NONE;
        }
        long sum = 0;
        for (int s : songsOf(side)) {
            int begin = songs.get(s).begins;
            int g = Math.max(0, begin - b);
            long part;
            if (place >= g && place <= begin) {
                part = (begin - place) * (2 * thumb + 1);
            } else {
                boolean on = place < g;
                int h = 1;
                while (h < 60 && (on ? run(side, place, on, h, stops) < g : run(side, place, on, h, stops) > g)) {
                    h++;
                }
                part = windSum(side, place, on, h, begin);
            }
            sum += songs.get(s).wanted * part;
        }
        return sum;
    }

    int best() {
        int best = 0;
        for (int b = 1; b <= 30; b++) {
            if (rule(b) < rule(best)) {
                best = b;
            }
        }
        return best;
    }

    int goes(int what) {
        int[] is = {side, place, 0, 0};
        int st = stops;
        for (Deed d : deeds) {
            if (d.what < 2) {
                is[1] = run(is[0], is[1], d.what == 0, d.n, st++);
                is[2] += d.n + 1;
                is[3] += d.n + 1;
            } else if (d.what == 2) {
                is[1] = Math.min(length, is[1] + d.n);
                is[2] += d.n;
            } else {
                is[0] = 1 - is[0];
                is[1] = length - is[1];
                is[2] += 8;
            }
        }
        return what < 0 || what > 3 ? NONE : is[what];
    }

    boolean undo() {
        if (undos.isEmpty()) {
            return false;
        }
        takeStand(undos.remove(undos.size() - 1));
        return true;
    }

    boolean image(boolean taken) {
        if (taken) {
            image = copy();
            return true;
        }
        if (image == null) {
            return false;
        }
        takeAll(image);
        undos.clear();
        return true;
    }

    int look(int what) {
        int[] all = {length, songs.size(), side, place, counter, seconds, stops, thumb, past, book.size(), draws,
            law.size(), deeds.size(), afters.size(), worn.size(), undos.size()};
        return what < 0 || what >= all.length ? NONE : all[what];
    }

    @Override
    public String toString() {
        return Arrays.toString(new int[] {side, place, counter, seconds, stops, draws}) + known;
    }
}
