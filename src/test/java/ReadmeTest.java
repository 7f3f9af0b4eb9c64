import java.io.IOException;
import java.lang.reflect.Method;
import java.lang.reflect.Modifier;
import java.nio.file.Files;
import java.nio.file.Path;
import java.util.regex.Matcher;
import java.util.regex.Pattern;

/** The list and the example of README.md are as they are told there, and no call is left out. */
public final class ReadmeTest {
    private static final Pattern TEXT = Pattern.compile("```text\n(.*?)```", Pattern.DOTALL);
    private static final Pattern ANSWER = Pattern.compile("^x\\.(\\w+)\\(([0-9, ]*)\\) +(\\S+) ", Pattern.MULTILINE);
    private static final int ANSWERS = 15;

    public static void main(String[] args) throws IOException, ReflectiveOperationException {
        String page = Files.readString(Path.of("README.md"));
        Check check = new Check();
        Matcher texts = TEXT.matcher(page);
        check.same("a list is told", texts.find(), true);
        TunnelLeggers x = new TunnelLeggers();
        feed(x, texts.group(1));
        check.same("answers are told", texts.find(), true);
        Matcher answers = ANSWER.matcher(texts.group(1));
        int told = 0;
        while (answers.find()) {
            check.sameText(answers.group(), answer(x, answers.group(1), answers.group(2)), answers.group(3));
            told++;
        }
        check.same("answers told", told, ANSWERS);
        everyCallIsTold(check, page);
        check.end();
    }

    private static void everyCallIsTold(Check check, String page) {
        for (Method method : TunnelLeggers.class.getDeclaredMethods()) {
            if (Modifier.isPublic(method.getModifiers())) {
                check.same(method.getName() + " is told", page.contains("`" + method.getName() + "("), true);
            }
        }
    }

    private static String answer(TunnelLeggers x, String name, String arguments) throws ReflectiveOperationException {
        String[] parts = arguments.isEmpty() ? new String[0] : arguments.split(", ");
        Class<?>[] types = new Class<?>[parts.length];
        Object[] values = new Object[parts.length];
        for (int i = 0; i < parts.length; i++) {
            types[i] = int.class;
            values[i] = Integer.valueOf(parts[i]);
        }
        return String.valueOf(TunnelLeggers.class.getMethod(name, types).invoke(x, values));
    }

    // These two stand in README.md as well.

    static void feed(TunnelLeggers x, String list) {
        String text = list + " ".repeat(19);
        for (int i = 0; i < list.length(); i += 20) {
            x.feed(word(text, i), word(text, i + 4), word(text, i + 8), word(text, i + 12), word(text, i + 16));
        }
    }

    static int word(String text, int i) {
        return text.charAt(i) << 24 | text.charAt(i + 1) << 16 | text.charAt(i + 2) << 8 | text.charAt(i + 3);
    }
}
