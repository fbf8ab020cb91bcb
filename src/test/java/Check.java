/** What the tests of sentences share: a sentence of the document at a time, and the answers due by it. */
final class Check {
    static final int NONE = -1;
    static final int[] FAR = {Integer.MIN_VALUE, Integer.MAX_VALUE};
    /** L 35; side 0: song 0 at 0, a gap at 10, song 1 at 15; side 1: a gap at 0, song 2 at 8, a gap at 23. */
    static final String TAPE = "song 10 wants 5;gap 5;song 20 wants 9;turn;gap 8;song 15 wants 2;";
    /** L 200, and nothing on it. */
    static final String LONG_TAPE = "gap 60;gap 60;gap 60;gap 20;";

    private static String sentence = "";
    private static int sentences;
    private static int passed;
    private static int failed;

    private Check() {
    }

    static void sentence(String words) {
        sentence = words;
        sentences++;
    }

    static void due(String call, long got, long due) {
        if (got == due) {
            passed++;
        } else {
            failed++;
            System.out.println("\"" + sentence + "\": " + call + " answered " + got + ", due is " + due);
        }
    }

    static void due(String call, boolean got, boolean due) {
        due(call, got ? 1 : 0, due ? 1 : 0);
    }

    static void finish(String name) {
        System.out.println(name + ": " + sentences + " sentences, " + passed + " passed, " + failed + " failed");
        if (failed != 0) {
            System.exit(1);
        }
    }

    /** The text as bytes behind an empty tape of bytes. */
    static void write(WoundTape x, String text) {
        x.end(0);
        for (int i = 0; i < text.length(); i += 20) {
            int[] f = new int[5];
            for (int j = 0; j < 20; j++) {
                int c = i + j < text.length() ? text.charAt(i + j) : 32;
                f[j / 4] = f[j / 4] << 8 | c;
            }
            x.feed(f[0], f[1], f[2], f[3], f[4]);
        }
        due("end(" + text.length() + ")", x.end(text.length()), true);
    }

    static int tell(WoundTape x, int k, String text) {
        write(x, text);
        return x.text(k);
    }

    static WoundTape made(String tape, String law, int thumb) {
        WoundTape x = new WoundTape();
        due("no fault in " + tape, tell(x, 0, tape) >= 0, true);
        due("no fault in " + law, tell(x, 1, law) >= 0, true);
        due("set(0, " + thumb + ")", x.set(0, thumb), true);
        return x;
    }

    /** On TAPE, three places a second, stopping at once. */
    static WoundTape even(int thumb) {
        return made(TAPE, "speed 3;late 0;", thumb);
    }

    /** KNOWN are just those places. */
    static void knows(WoundTape x, int... places) {
        due("unsure(0)", x.unsure(0), places.length);
        for (int p : places) {
            due("known(" + p + ")", x.known(p), 1);
        }
    }

    static void looks(WoundTape x, int what, int due) {
        due("look(" + what + ")", x.look(what), due);
    }

    /** All that can be seen of an object by some 150 calls, each with its answer. */
    static String seen(WoundTape x) {
        StringBuilder b = new StringBuilder();
        for (int w = 0; w < 16; w++) {
            b.append("look(").append(w).append(") ").append(x.look(w)).append('\n');
        }
        for (int p = 0; p <= Math.min(40, x.look(0)); p++) {
            b.append("known(").append(p).append(") ").append(x.known(p)).append('\n');
        }
        for (int i = 0; i < Math.min(6, x.look(9)); i++) {
            for (int w = 0; w < 4; w++) {
                b.append("book(").append(i).append(", ").append(w).append(") ").append(x.book(i, w)).append('\n');
            }
        }
        for (int s = 0; s < Math.min(4, x.look(1)); s++) {
            for (int w = 0; w < 4; w++) {
                b.append("song(").append(s).append(", ").append(w).append(") ").append(x.song(s, w)).append('\n');
            }
            b.append("sought(").append(s).append(") ").append(x.sought(s)).append('\n');
            b.append("after(").append(s).append(", 0) ").append(x.after(s, 0)).append('\n');
            b.append("after(0, ").append(s).append(") ").append(x.after(0, s)).append('\n');
        }
        for (int w = 0; w < 3; w++) {
            b.append("lawAt(0, true, 5, ").append(w).append(") ").append(x.lawAt(0, true, 5, w)).append('\n');
        }
        for (int w = 0; w < 4; w++) {
            b.append("goes(").append(w).append(") ").append(x.goes(w)).append('\n');
        }
        return b.toString();
    }

    /** Nothing that can be seen has changed since. */
    static void unchanged(String by, WoundTape x, String before) {
        String now = seen(x);
        if (now.equals(before)) {
            passed++;
            return;
        }
        String[] a = before.split("\n");
        String[] b = now.split("\n");
        int i = 0;
        while (i < a.length && i < b.length && a[i].equals(b[i])) {
            i++;
        }
        failed++;
        System.out.println("\"" + sentence + "\": " + by + " changed " + (i < a.length ? a[i] : "the end") + " to "
            + (i < b.length ? b[i] : "the end"));
    }
}
