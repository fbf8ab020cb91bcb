/** The example of README.md, word for word: it fails if the README tells an answer that is not so. */
public final class Example {
    private static boolean wrong;

    private static int tell(WoundTape tape, int k, String text) {
        tape.end(0);
        for (int i = 0; i < text.length(); i += 20) {
            int[] five = new int[5];
            for (int j = 0; j < 20; j++) {
                int sign = i + j < text.length() ? text.charAt(i + j) : ' ';
                five[j / 4] = five[j / 4] << 8 | sign;
            }
            tape.feed(five[0], five[1], five[2], five[3], five[4]);
        }
        tape.end(text.length());
        return tape.text(k);
    }

    private static void due(String call, long got, long due) {
        if (got != due) {
            wrong = true;
            System.out.println(call + " answered " + got + ", README.md tells " + due);
        }
    }

    public static void main(String[] args) {
        WoundTape tape = new WoundTape();
        due("text(0)", tell(tape, 0, "song 10 wants 5; gap 5; song 20 wants 9; turn; gap 8; song 15 wants 2;"), 3);
        due("text(1)", tell(tape, 1, "speed 2 when on = 0; speed 3; late 1;"), 3);
        due("runs(0, true, 4)", tape.runs(0, true, 4), 13);
        due("soonest(0, 1, 1)", tape.soonest(0, 1, 1), 3);
        due("wind(true, 3)", tape.wind(true, 3), 13);
        due("look(3)", tape.look(3), 13);
        due("unsure(0)", tape.unsure(0), 3);
        due("hear(1)", tape.hear(1), 98);
        due("unsure(0)", tape.unsure(0), 2);
        due("undo()", tape.undo() ? 1 : 0, 1);
        due("text(2)", tell(tape, 2, "on 61"), WoundTape.NONE);
        due("fault(0)", tape.fault(0), 2);
        due("fault(1)", tape.fault(1), 3);
        System.out.println("Example: " + (wrong ? "README.md tells what is not so" : "as README.md tells"));
        if (wrong) {
            System.exit(1);
        }
    }
}
