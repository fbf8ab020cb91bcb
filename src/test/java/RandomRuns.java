import java.util.ArrayList;
import java.util.List;
import java.util.Random;

/** Runs of calls by draws, on WoundTape and on Model; each answer must be the same. */
public final class RandomRuns {
    private static final String[] CALLS = {"state", "set", "put", "wind", "hear", "turn", "evening", "text0", "text1",
        "text2", "text3", "bytes", "song", "at", "after", "known", "lawAt", "book", "runs", "soonest", "turned",
        "unsure", "tells", "card", "order", "halves", "worn", "sought", "most", "rule", "best", "goes", "undo",
        "image", "look", "lookAll"};
    // How often each comes, in the order above.
    private static final int[] WEIGHTS = {1, 2, 3, 14, 8, 4, 3, 3, 4, 3, 3, 2, 3, 4, 3, 6, 6, 4, 5, 3, 3, 4, 1, 2, 2, 1, 4,
        3, 2, 2, 1, 4, 8, 2, 4, 4};

    private final Random random;
    private final WoundTape x = new WoundTape();
    private final Model m = new Model();
    private final List<String> trace = new ArrayList<>();
    private int wrong;

    private RandomRuns(long seed) {
        random = new Random(seed);
    }

    public static void main(String[] args) {
        int runs = args.length > 0 ? Integer.parseInt(args[0]) : 400;
        int first = args.length > 1 ? Integer.parseInt(args[1]) : 1;
        int passed = 0;
        int failed = 0;
        for (int run = first; run < first + runs; run++) {
            RandomRuns r = new RandomRuns(run);
            if (r.go()) {
                passed++;
            } else {
                failed++;
                System.out.println("seed " + run + ":");
                int from = Math.max(0, r.trace.size() - 12);
                r.trace.subList(from, r.trace.size()).forEach(System.out::println);
            }
        }
        System.out.println("RandomRuns: " + passed + " passed, " + failed + " failed");
        if (failed != 0) {
            System.exit(1);
        }
    }

    private boolean go() {
        int calls = 0;
        tell(0, tape(false));
        if (chance(70)) {
            tell(1, law(false));
        }
        while (calls < 450 && wrong == 0) {
            int before = trace.size();
            step();
            calls += Math.max(1, trace.size() - before);
        }
        return wrong == 0;
    }

    private int below(int n) {
        return random.nextInt(n);
    }

    private boolean chance(int percent) {
        return below(100) < percent;
    }

    private int pick(int least, int most) {
        if (chance(3)) {
            int[] odd = {Integer.MIN_VALUE, Integer.MAX_VALUE, -1, least - 1, most + 1, -1000, 100000};
            return odd[below(odd.length)];
        }
        return least + below(most - least + 1);
    }

    private int place() {
        return pick(0, m.look(0));
    }

    private int song() {
        return pick(0, Math.max(0, m.look(1) - 1));
    }

    private void same(String call, long got, long due) {
        trace.add("  " + call + " = " + got + (got == due ? "" : ", due is " + due));
        if (got != due) {
            wrong++;
        }
    }

    private void same(String call, boolean got, boolean due) {
        same(call, got ? 1 : 0, due ? 1 : 0);
    }

    private void step() {
        int sum = 0;
        for (int w : WEIGHTS) {
            sum += w;
        }
        int d = below(sum);
        int i = 0;
        while (d >= WEIGHTS[i]) {
            d -= WEIGHTS[i];
            i++;
        }
        if (i < 12) {
            change(CALLS[i]);
        } else {
            ask(CALLS[i]);
        }
    }

    private void change(String call) {
        boolean faulty = chance(40);
        switch (call) {
            case "state" -> {
                int v = random.nextInt();
                same("state(" + v + ")", x.state(v), m.state(v));
            }
            case "set" -> {
                int what = pick(0, 1);
                int v = pick(0, what == 0 ? 4 : 99);
                same("set(" + what + ", " + v + ")", x.set(what, v), m.set(what, v));
            }
            case "put" -> {
                int p = place();
                same("put(" + p + ")", x.put(p), m.put(p));
            }
            case "wind" -> {
                boolean on = chance(60);
                int h = pick(1, chance(80) ? 12 : 60);
                same("wind(" + on + ", " + h + ")", x.wind(on, h), m.wind(on, h));
            }
            case "hear" -> {
                int n = pick(1, chance(80) ? 6 : 30);
                same("hear(" + n + ")", x.hear(n), m.hear(n));
            }
            case "turn" -> same("turn()", x.turn(), m.turn());
            case "evening" -> same("evening()", x.evening(), m.evening());
            case "text0" -> tell(0, tape(faulty));
            case "text1" -> tell(1, law(faulty));
            case "text2" -> tell(2, evening(faulty));
            case "text3" -> tell(3, afters(faulty));
            default -> bytes();
        }
    }

    private void ask(String call) {
        switch (call) {
            case "song" -> {
                int s = song();
                int w = pick(0, 3);
                same("song(" + s + ", " + w + ")", x.song(s, w), m.song(s, w));
            }
            case "at" -> {
                int s = pick(0, 1);
                int p = place();
                same("at(" + s + ", " + p + ")", x.at(s, p), m.at(s, p));
            }
            case "after" -> {
                int a = song();
                int b = song();
                same("after(" + a + ", " + b + ")", x.after(a, b), m.after(a, b));
            }
            case "known" -> {
                for (int p = -1; p <= m.look(0) + 1; p++) {
                    if (x.known(p) != m.known(p)) {
                        same("known(" + p + ")", x.known(p), m.known(p));
                    }
                }
            }
            case "lawAt" -> {
                int p = place();
                boolean on = chance(50);
                int h = pick(0, 64);
                int w = pick(0, 2);
                same("lawAt(" + p + ", " + on + ", " + h + ", " + w + ")", x.lawAt(p, on, h, w), m.lawAt(p, on, h, w));
            }
            case "book" -> {
                int i = pick(0, Math.max(0, m.look(9) - 1));
                int w = pick(0, 3);
                same("book(" + i + ", " + w + ")", x.book(i, w), m.book(i, w));
            }
            case "runs" -> {
                int p = place();
                boolean on = chance(50);
                int h = pick(0, 64);
                same("runs(" + p + ", " + on + ", " + h + ")", x.runs(p, on, h), m.runs(p, on, h));
            }
            case "soonest" -> {
                int p = place();
                int s = song();
                int w = pick(0, 3);
                same("soonest(" + p + ", " + s + ", " + w + ")", x.soonest(p, s, w), m.soonest(p, s, w));
            }
            case "turned" -> {
                int s = song();
                int w = pick(0, 2);
                same("turned(" + s + ", " + w + ")", x.turned(s, w), m.turned(s, w));
            }
            default -> askMore(call);
        }
    }

    private void askMore(String call) {
        switch (call) {
            case "unsure" -> {
                int w = pick(0, 3);
                same("unsure(" + w + ")", x.unsure(w), m.unsure(w));
            }
            case "tells" -> {
                int w = pick(0, 2);
                same("tells(" + w + ")", x.tells(w), m.tells(w));
            }
            case "card" -> {
                int k = pick(1, 6);
                int w = pick(0, 1);
                same("card(" + k + ", " + w + ")", x.card(k, w), m.card(k, w));
            }
            case "order" -> {
                int w = chance(30) ? 0 : pick(10, 18);
                same("order(" + w + ")", x.order(w), m.order(w));
            }
            case "halves" -> {
                int w = pick(0, 1);
                same("halves(" + w + ")", x.halves(w), m.halves(w));
            }
            case "worn" -> {
                int p = chance(6) ? -1 : place();
                int n = pick(1, 99);
                same("worn(" + p + ", " + n + ")", x.worn(p, n), m.worn(p, n));
            }
            case "sought" -> {
                int s = song();
                same("sought(" + s + ")", x.sought(s), m.sought(s));
            }
            case "most" -> same("most()", x.most(), m.most());
            case "rule" -> {
                int b = pick(0, 30);
                same("rule(" + b + ")", x.rule(b), m.rule(b));
            }
            case "best" -> same("best()", x.best(), m.best());
            case "goes" -> {
                int w = pick(0, 3);
                same("goes(" + w + ")", x.goes(w), m.goes(w));
            }
            case "undo" -> same("undo()", x.undo(), m.undo());
            case "image" -> {
                boolean taken = chance(50);
                same("image(" + taken + ")", x.image(taken), m.image(taken));
            }
            case "look" -> {
                int w = pick(0, 15);
                same("look(" + w + ")", x.look(w), m.look(w));
            }
            default -> {
                for (int w = 0; w < 16; w++) {
                    if (x.look(w) != m.look(w)) {
                        same("look(" + w + ")", x.look(w), m.look(w));
                    }
                }
            }
        }
    }

    // ---- texts

    private void bytes() {
        if (chance(30)) {
            int k = chance(50) ? pick(0, 3) : pick(4, 5);
            same("text(" + k + ")", x.text(k), m.text(k));
            sameFault();
        } else if (chance(50)) {
            int n = pick(0, 40);
            same("end(" + n + ")", x.end(n), m.end(n));
        } else {
            int a = random.nextInt();
            same("feed(" + a + " ..)", x.feed(a, ~a, a * 3, 7, a), m.feed(a, ~a, a * 3, 7, a));
        }
    }

    private void sameFault() {
        same("fault(0)", x.fault(0), m.fault(0));
        same("fault(1)", x.fault(1), m.fault(1));
        same("fault(2)", x.fault(2), m.fault(2));
    }

    private void tell(int k, String text) {
        same("end(0)", x.end(0), m.end(0));
        String cut = text.length() > 400 ? text.substring(0, 400) : text;
        int[] f = new int[5];
        for (int i = 0; i < cut.length(); i += 20) {
            for (int j = 0; j < 5; j++) {
                f[j] = 0;
                for (int b = 0; b < 4; b++) {
                    int at = i + 4 * j + b;
                    f[j] = f[j] << 8 | (at < cut.length() ? cut.charAt(at) & 255 : 32);
                }
            }
            if (x.feed(f[0], f[1], f[2], f[3], f[4]) != m.feed(f)) {
                wrong++;
            }
        }
        same("end", x.end(cut.length()), m.end(cut.length()));
        same("text(" + k + ") of " + cut, x.text(k), m.text(k));
        sameFault();
    }

    private String blank() {
        return chance(80) ? "" : chance(50) ? " " : "\n ";
    }

    private String number(int least, int most) {
        int n = chance(1) ? most + 1 : least + below(most - least + 1);
        return " " + (chance(3) ? "0" : "") + n;
    }

    private String tape(boolean faulty) {
        int sides = chance(10) ? 0 : chance(75) ? 2 : 1;
        int size = 1 + below(chance(85) ? 9 : 22);
        int longest = chance(40) ? 15 : chance(85) ? 25 : 60;
        StringBuilder b = new StringBuilder();
        for (int s = 0; s < sides; s++) {
            b.append(s == 1 ? "turn;" : "");
            for (int i = 0; i < size / sides + below(2); i++) {
                b.append(chance(75) ? "song" + number(1, longest) + " wants" + number(0, 99) : "gap" + number(1, longest));
                b.append(blank()).append(';').append(blank());
            }
        }
        return faulty ? spoil(b.toString()) : b.toString();
    }

    private String unit() {
        String[] any = {"at", "full", "on", "hold", "side", "song", "stops"};
        return chance(55) ? number(0, chance(80) ? 12 : 9999).trim() : any[below(any.length)];
    }

    private String sum() {
        StringBuilder b = new StringBuilder(unit());
        while (chance(40)) {
            String sign = "+-*/".substring(below(4));
            b.append(blank()).append(sign.charAt(0)).append(blank());
            b.append(sign.charAt(0) == '/' ? "" + (1 + below(30)) : unit());
        }
        return b.toString();
    }

    private String claim(int depth) {
        if (depth < 10 && chance(25)) {
            return chance(50) ? "not " + claim(depth + 1) : "(" + choice(depth + 1) + ")";
        }
        return sum() + "<=>".charAt(below(3)) + sum();
    }

    private String choice(int depth) {
        StringBuilder b = new StringBuilder(claim(depth));
        while (chance(25)) {
            b.append(chance(50) ? " and " : " or ").append(claim(depth));
        }
        return b.toString();
    }

    /** By most sums a tape runs to its end at once, and nothing else of THE LAW is seen then. */
    private String slowLine() {
        String[] lines = {"speed 1+stops", "speed stops*2-hold", "speed 1+side when stops>1", "speed 1+full/40",
            "speed 3-on when song=99", "late stops", "late hold/3 when not stops=1", "late 3*side+on", "slip 90*stops"};
        return lines[below(lines.length)] + ";";
    }

    private String law(boolean faulty) {
        String[] any = {"speed ", "late ", "slip "};
        StringBuilder b = new StringBuilder();
        int size = below(chance(80) ? 7 : 19);
        for (int i = 0; i < size; i++) {
            String line = any[below(3)] + sum() + (chance(60) ? " when " + choice(0) : "") + blank() + ";" + blank();
            if (line.startsWith("slip") && chance(70)) {
                line = "slip " + below(1001) + ";";
            } else if (chance(40)) {
                line = slowLine();
            }
            if (b.length() + line.length() <= 400) {
                b.append(line);
            }
        }
        return faulty ? spoil(b.toString()) : b.toString();
    }

    private String deeds(int depth) {
        StringBuilder b = new StringBuilder();
        int size = below(5);
        for (int i = 0; i < size; i++) {
            int kind = below(depth < 5 ? 5 : 4);
            if (kind == 4) {
                b.append("again").append(number(1, chance(80) ? 3 : 9)).append('(').append(deeds(depth + 1)).append(')');
            } else if (kind == 3) {
                b.append("turn");
            } else {
                String[] any = {"on", "back", "hear"};
                b.append(any[kind]).append(number(1, kind == 2 ? 30 : chance(80) ? 12 : 60));
            }
            b.append(' ');
        }
        return b.toString();
    }

    private String evening(boolean faulty) {
        String s = deeds(0);
        return faulty ? spoil(s) : s;
    }

    private String afters(boolean faulty) {
        StringBuilder b = new StringBuilder();
        int many = Math.max(1, m.look(1));
        int size = below(chance(80) ? 9 : 18);
        for (int i = 0; i < size; i++) {
            int a = below(many);
            int c = chance(95) ? (a + 1 + below(Math.max(1, many - 1))) % many : a;
            b.append("after ").append(a).append(' ').append(c).append(" wants").append(number(0, 99)).append(';');
        }
        return faulty ? spoil(b.toString()) : b.toString();
    }

    /** One change somewhere, by which a text mostly comes to have a fault. */
    private String spoil(String s) {
        int i = below(s.length() + 1);
        int j = Math.min(s.length(), i + 1 + below(3));
        String[] any = {"", "0", "99", "12345", "x", "S", ";", "(", ")", "turn", "not", "/0", "/ 7", "é", "=", "song ",
            " or ", "\t", " ", "when", "again 2(", "gap 60;gap 60;gap 60;gap 60;"};
        String added = any[below(any.length)];
        return chance(50) ? s.substring(0, i) + added + s.substring(j) : s.substring(0, i) + added + s.substring(i);
    }
}
