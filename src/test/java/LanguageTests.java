import java.lang.reflect.Constructor;
import java.lang.reflect.Field;
import java.lang.reflect.Method;
import java.lang.reflect.Modifier;
import java.nio.charset.StandardCharsets;
import java.nio.file.Files;
import java.nio.file.Path;
import java.util.Arrays;
import java.util.Set;
import java.util.TreeSet;
import java.util.regex.Matcher;
import java.util.regex.Pattern;

/** The rules of ../shared/LANGUAGE.md, as far as they can be read off the source and the class files. */
public final class LanguageTests {
    private static int passed;
    private static int failed;
    private static final Set<String> FACE = new TreeSet<>(Arrays.asList(
        "int state(int)", "boolean set(int,int)", "boolean put(int)", "int wind(boolean,int)", "int hear(int)",
        "int turn()", "int evening()", "int feed(int,int,int,int,int)", "boolean end(int)", "int text(int)",
        "int fault(int)", "int song(int,int)", "int at(int,int)", "int after(int,int)", "int known(int)",
        "int lawAt(int,boolean,int,int)", "int book(int,int)", "int runs(int,boolean,int)",
        "int soonest(int,int,int)", "int turned(int,int)", "int unsure(int)", "int tells(int)", "int card(int,int)",
        "int order(int)", "int halves(int)", "int worn(int,int)", "int sought(int)", "int most()", "long rule(int)",
        "int best()", "int goes(int)", "boolean undo()", "boolean image(boolean)", "int look(int)"));

    public static void main(String[] args) throws Exception {
        Path file = Path.of(args.length > 0 ? args[0] : "src/main/java/WoundTape.java");
        String source = Files.readString(file, StandardCharsets.ISO_8859_1);
        face();
        for (Class<?> c : WoundTape.class.getDeclaredClasses()) {
            inside(c);
        }
        due("classes", WoundTape.class.getDeclaredClasses().length <= 12);
        source(source);
        System.out.println("LanguageTests: " + passed + " passed, " + failed + " failed");
        if (failed != 0) {
            System.exit(1);
        }
    }

    private static void due(String what, boolean so) {
        if (so) {
            passed++;
        } else {
            failed++;
            System.out.println("not so: " + what);
        }
    }

    private static String told(Method m) {
        StringBuilder b = new StringBuilder(m.getReturnType().getSimpleName() + " " + m.getName() + "(");
        for (Class<?> p : m.getParameterTypes()) {
            b.append(b.charAt(b.length() - 1) == '(' ? "" : ",").append(p.getSimpleName());
        }
        return b.append(')').toString();
    }

    private static void face() {
        Class<?> c = WoundTape.class;
        due("public and final", Modifier.isPublic(c.getModifiers()) && Modifier.isFinal(c.getModifiers()));
        due("no package", c.getPackageName().isEmpty());
        Set<String> open = new TreeSet<>();
        Set<String> names = new TreeSet<>();
        for (Method m : c.getDeclaredMethods()) {
            if (Modifier.isPublic(m.getModifiers())) {
                open.add(told(m));
                names.add(m.getName());
            }
        }
        due("the face: " + open, open.equals(FACE));
        for (Method m : c.getDeclaredMethods()) {
            boolean hidden = Modifier.isPrivate(m.getModifiers());
            due("public or private: " + m, Modifier.isPublic(m.getModifiers()) || hidden);
            due("a name of its own: " + m, !hidden || !names.contains(m.getName()));
        }
        for (Class<?> i : c.getDeclaredClasses()) {
            for (Method m : i.getDeclaredMethods()) {
                due("a name of its own: " + m, !names.contains(m.getName()));
            }
        }
        Constructor<?>[] made = c.getDeclaredConstructors();
        due("one constructor", made.length == 1 && Modifier.isPublic(made[0].getModifiers())
            && made[0].getParameterCount() == 0);
        for (Field f : c.getDeclaredFields()) {
            due("public or private: " + f, f.getName().equals("NONE") || Modifier.isPrivate(f.getModifiers()));
        }
        fields(c);
    }

    private static void inside(Class<?> c) {
        due("static: " + c, Modifier.isStatic(c.getModifiers()));
        due("private or package-visible: " + c, !Modifier.isPublic(c.getModifiers()) && !Modifier.isProtected(c.getModifiers()));
        due("no classes inside: " + c, c.getDeclaredClasses().length == 0);
        for (Method m : c.getDeclaredMethods()) {
            due("seven parameters: " + m, m.getParameterCount() <= 7);
            due("of no object: " + m, !Set.of("equals", "hashCode", "toString").contains(m.getName()));
        }
        fields(c);
    }

    private static void fields(Class<?> c) {
        int own = 0;
        for (Field f : c.getDeclaredFields()) {
            own += Modifier.isStatic(f.getModifiers()) ? 0 : 1;
            due("static is final: " + f, !Modifier.isStatic(f.getModifiers()) || Modifier.isFinal(f.getModifiers()));
        }
        due("twenty fields: " + c, own <= 20);
    }

    private static void source(String source) {
        String bare = source.replaceAll("(?s)/\\*.*?\\*/", " ").replaceAll("//[^\n]*", " ")
            .replaceAll("\"(\\\\.|[^\"\\\\])*\"", "\"\"").replaceAll("'(\\\\.|[^'\\\\])'", "0");
        String[] words = {"throw", "throws", "try", "catch", "finally", "synchronized", "assert", "double", "float",
            "var", "record", "enum", "volatile", "native", "System.out", "Object", "HashMap", "Map", "Exact", "yield"};
        for (String w : words) {
            due("without " + w, !Pattern.compile("\\b" + Pattern.quote(w) + "\\b").matcher(bare).find());
        }
        due("no lambda, no arrow", !bare.contains("->") && !bare.contains("::"));
        due("no text joined by +", !bare.contains("\"\" +") && !bare.contains("+ \"\""));
        due("signs 1 to 127", source.chars().allMatch(c -> c < 128));
        Matcher imports = Pattern.compile("import ([^;]+);").matcher(bare);
        while (imports.find()) {
            due("import " + imports.group(1), imports.group(1).equals("java.util.Arrays"));
        }
        Matcher calls = Pattern.compile("\\b(Integer|Long|Math|Arrays|System|String|Character)\\.(\\w+)").matcher(bare);
        Set<String> known = Set.of("Integer.bitCount", "Math.max", "Math.min", "Math.abs", "Math.floorMod",
            "Arrays.fill", "System.arraycopy");
        while (calls.find()) {
            due("calls " + calls.group(), known.contains(calls.group()));
        }
        lengths(bare);
    }

    /** Methods of sixty lines at most: from a line that opens one to the line that closes it. */
    private static void lengths(String bare) {
        String[] lines = bare.split("\n");
        for (int i = 0; i < lines.length; i++) {
            Matcher m = Pattern.compile("^( {4}| {8})\\S.*\\) \\{$").matcher(lines[i]);
            if (!m.find()) {
                continue;
            }
            int j = i;
            while (j < lines.length && !lines[j].equals(m.group(1) + "}")) {
                j++;
            }
            due("short: " + lines[i].trim(), j - i < 60);
        }
    }
}
