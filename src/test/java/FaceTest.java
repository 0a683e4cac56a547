import java.io.IOException;
import java.lang.reflect.Constructor;
import java.lang.reflect.Field;
import java.lang.reflect.Method;
import java.lang.reflect.Modifier;
import java.nio.file.Files;
import java.nio.file.Path;
import java.util.ArrayList;
import java.util.Arrays;
import java.util.List;
import java.util.Set;
import java.util.TreeSet;
import java.util.regex.Matcher;
import java.util.regex.Pattern;

/** The public face, the form that LANGUAGE.md asks for, and calls with any numbers at all. */
public final class FaceTest {
    private static final String[] FACE = {
        "feed 1", "clear 0", "table 0", "line 2", "stop 2", "minute 3", "runs 2", "foot 2", "walk 3", "delay 4",
        "drop 1", "earliest 4", "worth 3", "legs 4", "leg 6", "fare 4", "waiting 4", "latest 4", "profile 6",
        "reached 4", "worst 5", "cut 5", "board 4", "missed 1", "meet 2", "spell 4", "paper 1", "told 1",
        "list 2", "set 3", "get 2", "lay 5", "judge 5", "image 0", "undo 0",
    };

    public static void main(String[] args) throws Exception {
        constants();
        face();
        nested(TripRounds.class);
        sizes();
        source();
        library();
        methodLengths();
        anyNumbers();
        Due.end();
    }

    private static void constants() {
        Due.due("NONE", TripRounds.NONE, -1);
        Due.due("BAD", TripRounds.BAD, -2);
        Due.due("STATE", TripRounds.STATE, -3);
        Due.due("FULL", TripRounds.FULL, -4);
    }

    private static void face() {
        Set<String> due = new TreeSet<>(Arrays.asList(FACE));
        Set<String> got = new TreeSet<>();
        Set<String> hidden = new TreeSet<>();
        for (Method m : TripRounds.class.getDeclaredMethods()) {
            if (m.isSynthetic()) continue;
            if (Modifier.isPrivate(m.getModifiers())) {
                hidden.add(m.getName());
                continue;
            }
            Due.due("public " + m, Modifier.isPublic(m.getModifiers()) && m.getReturnType() == int.class ? 1 : 0, 1);
            for (Class<?> c : m.getParameterTypes()) Due.due("int in " + m, c == int.class ? 1 : 0, 1);
            got.add(m.getName() + " " + m.getParameterCount());
        }
        Due.due("methods", got.toString(), due.toString());
        for (String name : FACE) {
            Due.due("hidden " + name, hidden.contains(name.substring(0, name.indexOf(' '))) ? 1 : 0, 0);
        }
        Set<String> open = new TreeSet<>();
        for (Field f : TripRounds.class.getDeclaredFields()) {
            if (!Modifier.isPrivate(f.getModifiers())) open.add(f.getName());
        }
        Due.due("open fields", open.toString(), "[BAD, FULL, NONE, STATE]");
        Constructor<?>[] all = TripRounds.class.getDeclaredConstructors();
        Due.due("constructors", all.length, 1);
        Due.due("constructor's numbers", all[0].getParameterCount(), 0);
        Due.due("final", Modifier.isFinal(TripRounds.class.getModifiers()) ? 1 : 0, 1);
    }

    private static void nested(Class<?> outer) {
        for (Class<?> c : outer.getDeclaredClasses()) {
            Due.due("static " + c, Modifier.isStatic(c.getModifiers()) ? 1 : 0, 1);
            Due.due("not public " + c, Modifier.isPublic(c.getModifiers()) ? 1 : 0, 0);
            for (Method m : c.getDeclaredMethods()) {
                boolean wrong = Modifier.isPrivate(m.getModifiers()) && isOfFace(m.getName());
                Due.due("private with a public one's name " + m, wrong ? 1 : 0, 0);
            }
            Due.due("classes in " + c, c.getDeclaredClasses().length, 0);
        }
    }

    private static boolean isOfFace(String name) {
        for (String call : FACE) {
            if (call.startsWith(name + " ")) return true;
        }
        return false;
    }

    /** Rules 3, 5 and 11: of how many classes, fields and parameters, and of what types. */
    private static void sizes() {
        List<Class<?>> all = new ArrayList<>(List.of(TripRounds.class.getDeclaredClasses()));
        all.add(TripRounds.class);
        Due.due("at most 12 classes", all.size() <= 12 ? 1 : 0, 1);
        Set<String> types = new TreeSet<>();
        for (Class<?> c : all) {
            int fields = 0;
            for (Field f : c.getDeclaredFields()) {
                if (!Modifier.isStatic(f.getModifiers())) fields++;
                else Due.due("final and a number " + f, Modifier.isFinal(f.getModifiers()) && f.getType() == int.class ? 1 : 0, 1);
                if (!all.contains(f.getType())) types.add(f.getType().getSimpleName());
            }
            Due.due("at most 20 fields in " + c, fields <= 20 ? 1 : 0, 1);
            for (Method m : c.getDeclaredMethods()) {
                Due.due("at most 7 parameters of " + m, m.getParameterCount() <= 7 ? 1 : 0, 1);
            }
        }
        Due.due("types of fields", types.toString(), "[boolean, int, int[], int[][]]");
    }

    /** Rule 4: of the library nothing but this. */
    private static void library() throws IOException {
        Set<String> used = new TreeSet<>();
        Matcher call = Pattern.compile("\\b(Arrays|Math|System|Integer|Long|String|StringBuilder|List|ArrayList)\\b(\\.\\w+)?").matcher(plainSource());
        while (call.find()) used.add(call.group());
        used.remove("Arrays");
        Due.due("library", used.toString(), "[Arrays.fill, Math.max, Math.min, System.arraycopy]");
    }

    /** Rule 11: some sixty lines; a method ends with the next line that is as far in as its first one. */
    private static void methodLengths() throws IOException {
        String[] lines = plainSource().split("\n");
        int methods = 0;
        for (int i = 0; i < lines.length; i++) {
            String in = lines[i].replaceAll("\\S.*", "");
            if ((in.length() != 4 && in.length() != 8) || !lines[i].matches(" +[\\w \\[\\]]+\\([^;]*\\) \\{")) continue;
            if (lines[i].matches(" +(if|for|while|switch) .*")) continue;
            int end = i;
            while (end < lines.length && !lines[end].equals(in + "}")) end++;
            methods++;
            Due.due("at most 60 lines:" + lines[i], end - i < 60 ? 1 : 0, 1);
        }
        Due.due("methods were found", methods > FACE.length ? 1 : 0, 1);
    }

    private static String plainSource() throws IOException {
        String text = Files.readString(Path.of("src/main/java/TripRounds.java"));
        return text.replaceAll("(?s)/\\*.*?\\*/", "").replaceAll("//[^\n]*", "");
    }

    private static void source() throws IOException {
        String text = plainSource();
        for (String word : new String[] {"throw", "throws", "try", "catch", "synchronized", "assert", "package"}) {
            Due.due(word, text.matches("(?s).*\\b" + word + "\\b.*") ? 1 : 0, 0);
        }
        for (String sign : new String[] {"->", "::", "Exact(", "System.out", "@"}) {
            Due.due(sign, text.replace("'@'", "").contains(sign) ? 1 : 0, 0);
        }
        for (String line : text.split("\n")) {
            boolean other = line.startsWith("import ") && !line.equals("import java.util.Arrays;");
            Due.due(line, other ? 1 : 0, 0);
        }
    }

    /** No call throws, whatever its numbers; each object gets as many calls as are promised. */
    private static void anyNumbers() throws Exception {
        int[] numbers = {Integer.MIN_VALUE, -2, -1, 0, 1, 2, 3, 5, 6, 7, 11, 12, 20, 21, 60, 100, 1999, 2000, Integer.MAX_VALUE};
        java.util.Random random = new java.util.Random(7);
        Method[] all = TripRounds.class.getDeclaredMethods();
        Arrays.sort(all, (a, b) -> a.getName().compareTo(b.getName()));
        for (int run = 0; run < 300; run++) {
            TripRounds x = run % 3 == 0 ? new TripRounds() : Due.with("L0:0>1>2;L3:2>11>6;T0:5+5+5;T1:60+6+6;F2-3=7;L2:1>0");
            for (int call = 0; call < 400; call++) {
                Method m = all[random.nextInt(all.length)];
                if (!Modifier.isPublic(m.getModifiers())) continue;
                Object[] with = new Object[m.getParameterCount()];
                for (int i = 0; i < with.length; i++) {
                    with[i] = random.nextInt(3) == 0 ? numbers[random.nextInt(numbers.length)] : random.nextInt(4);
                }
                m.invoke(x, with);
            }
        }
        Due.due("any numbers", 1, 1);
    }
}
