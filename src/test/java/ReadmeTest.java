import java.io.IOException;
import java.lang.reflect.InvocationTargetException;
import java.lang.reflect.Method;
import java.lang.reflect.Modifier;
import java.nio.charset.StandardCharsets;
import java.nio.file.Files;
import java.nio.file.Path;
import java.util.ArrayList;
import java.util.Arrays;
import java.util.List;
import java.util.regex.Matcher;
import java.util.regex.Pattern;

/** Makes the calls that README.md shows, each with its answer behind it; run where README.md lies. */
public final class ReadmeTest {
    private static final Pattern CALL = Pattern.compile("x\\.(\\w+)\\(([^)]*)\\); *// (-?\\w+).*");
    private static final Pattern LAND_TEXT = Pattern.compile("```\n(place [^`]*)```\n");

    private ReadmeTest() { }

    public static void main(String[] args) throws IOException, IllegalAccessException {
        Check.about = "README.md";
        String page = Files.readString(Path.of("README.md"), StandardCharsets.UTF_8);
        List<String> called = makeTheCalls(page);
        Check.due("the run is there", called.size() > 60, true);
        for (Method method : ShutPasses.class.getDeclaredMethods()) {
            if (Modifier.isPublic(method.getModifiers())) {
                String told = method.getReturnType().getSimpleName() + " " + method.getName() + "(";
                Check.due(told + ".. is in the table", page.contains("| `" + told), true);
                Check.due(told + ".. is in the run", called.contains(method.getName()), true);
            }
        }
        compareText(page);
        Check.end("ReadmeTest");
    }

    private static List<String> makeTheCalls(String page) throws IllegalAccessException {
        ShutPasses x = new ShutPasses();
        List<String> called = new ArrayList<>();
        for (String line : page.split("\n")) {
            Matcher call = CALL.matcher(line);
            if (call.matches()) {
                called.add(call.group(1));
                String got = answer(x, call.group(1), call.group(2).split(", *"));
                Check.due(line + " [" + got + "]", got.equals(call.group(3)), true);
            }
        }
        return called;
    }

    private static String answer(ShutPasses x, String name, String[] told) throws IllegalAccessException {
        Object[] arguments = Arrays.stream(told).filter(t -> !t.isEmpty()).map(t -> (Object) Long.decode(t).intValue())
                .toArray();
        for (Method method : ShutPasses.class.getDeclaredMethods()) {
            if (method.getName().equals(name) && method.getParameterCount() == arguments.length) {
                try {
                    return String.valueOf(method.invoke(x, arguments));
                } catch (InvocationTargetException e) {
                    return e.getCause().getClass().getSimpleName();
                }
            }
        }
        return "no such call";
    }

    /** The bytes that the run feeds are the text that the page shows. */
    private static void compareText(String page) {
        Matcher shown = LAND_TEXT.matcher(page);
        Check.due("a text is shown", shown.find(), true);
        String text = shown.group(1);
        StringBuilder fed = new StringBuilder();
        for (String line : page.split("\n")) {
            Matcher call = CALL.matcher(line);
            if (call.matches() && call.group(1).equals("feed")) {
                for (String number : call.group(2).split(", *")) {
                    int four = Long.decode(number).intValue();
                    for (int shift = 24; shift >= 0; shift -= 8) {
                        fed.append((char) (four >>> shift & 255));
                    }
                }
            }
        }
        Check.due("the text's length", page.contains("This text has " + text.length() + " bytes"), true);
        Check.due("it is fed as shown", fed.toString().startsWith(text), true);
    }
}
