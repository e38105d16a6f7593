import java.io.IOException;
import java.lang.reflect.Method;
import java.nio.file.Files;
import java.nio.file.Path;
import java.util.regex.Matcher;
import java.util.regex.Pattern;

/** Whether the example of README.md is so: each call of it that has its answer behind it. */
public final class ReadmeTest {
  private static final Pattern TEXT = Pattern.compile("String text = \"([^\"]*)\";");
  private static final Pattern CALL = Pattern.compile("^x\\.(\\w+)\\(([-0-9, ]*)\\); +// (-?\\d+):");

  public static void main(String[] args) throws ReflectiveOperationException, IOException {
    String page = Files.readString(Path.of("README.md"));
    Matcher text = TEXT.matcher(page);
    Checks.holds("README.md has a text", text.find());
    FloorType x = new FloorType();
    Checks.rowOf(x, 0, 0, text.group(1).chars().toArray());
    int calls = 0;
    for (String line : page.split("\n")) {
      Matcher call = CALL.matcher(line);
      if (call.find()) {
        calls++;
        Checks.due(line, answer(x, call.group(1), call.group(2)), Long.parseLong(call.group(3)));
      }
    }
    Checks.holds("README.md has calls", calls >= 20);
    Checks.end("ReadmeTest");
  }

  private static long answer(FloorType x, String name, String numbers) throws ReflectiveOperationException {
    String[] words = numbers.isEmpty() ? new String[0] : numbers.split(", ");
    Object[] given = new Object[words.length];
    for (int i = 0; i < words.length; i++) {
      given[i] = Integer.valueOf(words[i]);
    }
    for (Method m : FloorType.class.getDeclaredMethods()) {
      if (m.getName().equals(name) && m.getParameterCount() == given.length) {
        return ((Number) m.invoke(x, given)).longValue();
      }
    }
    throw new NoSuchMethodException(name);
  }
}
