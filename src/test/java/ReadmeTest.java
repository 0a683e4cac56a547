import java.lang.reflect.Method;
import java.lang.reflect.Modifier;
import java.nio.file.Files;
import java.nio.file.Path;
import java.util.regex.Matcher;
import java.util.regex.Pattern;

/** What README.md says of the class is so: its example answers as it tells there, and every call is named. */
public final class ReadmeTest {
    private static final Pattern TEXT = Pattern.compile("String text = \"([^\"]*)\";");
    private static final Pattern CALL = Pattern.compile("(?m)^trips\\.(\\w+)\\(([^)]*)\\); +// (-?\\d+):[^\"\n]*(?:\"([^\"]*)\")?$");

    public static void main(String[] args) throws Exception {
        String readme = Files.readString(Path.of("README.md"));
        example(readme);
        names(readme);
        Due.end();
    }

    private static void example(String readme) throws Exception {
        Matcher text = TEXT.matcher(readme);
        Due.due("a text in README.md", text.find() ? 1 : 0, 1);
        TripRounds x = new TripRounds();
        Due.feed(x, text.group(1));
        Matcher call = CALL.matcher(readme);
        int calls = 0;
        while (call.find()) {
            calls++;
            Due.due(call.group(), answer(x, call.group(1), call.group(2)), Long.parseLong(call.group(3)));
            if (call.group(4) != null) Due.due(call.group(), Due.paper(x), call.group(4));
        }
        int lines = readme.split("\ntrips\\.", -1).length - 1;
        Due.due("calls of README.md that are looked at", calls, lines);
    }

    private static int answer(TripRounds x, String name, String numbers) throws Exception {
        String[] parts = numbers.isEmpty() ? new String[0] : numbers.split(", *");
        Class<?>[] types = new Class<?>[parts.length];
        Object[] with = new Object[parts.length];
        for (int i = 0; i < parts.length; i++) {
            types[i] = int.class;
            with[i] = Integer.parseInt(parts[i]);
        }
        return (int) TripRounds.class.getMethod(name, types).invoke(x, with);
    }

    private static void names(String readme) {
        for (Method m : TripRounds.class.getDeclaredMethods()) {
            if (!Modifier.isPublic(m.getModifiers())) continue;
            String numbers = "[^,)]+" + ", [^,)]+".repeat(Math.max(0, m.getParameterCount() - 1));
            String form = "`" + m.getName() + "\\(" + (m.getParameterCount() == 0 ? "" : numbers) + "\\)` \\d+";
            Due.due("README.md names " + m.getName(), Pattern.compile(form).matcher(readme).find() ? 1 : 0, 1);
        }
    }
}
