import java.io.IOException;
import java.lang.reflect.Method;
import java.nio.file.Files;
import java.nio.file.Path;
import java.util.regex.Matcher;
import java.util.regex.Pattern;

/** The run of calls in README.md: behind each of them stands the answer that it gives. */
public final class ReadmeTest {
  private static final Pattern CALL = Pattern.compile("(?m)^x\\.(\\w+)\\((.*)\\);\\s*// (-?\\d+): .*$");

  public static void main(String[] args) throws IOException, ReflectiveOperationException {
    Matcher lines = CALL.matcher(Files.readString(Path.of("README.md")));
    SoldYear x = new SoldYear();
    int calls = 0;
    while (lines.find()) {
      calls++;
      Checks.due(lines.group(1) + "(" + lines.group(2) + ")", answer(x, lines.group(1), lines.group(2).split(", ")),
          Long.parseLong(lines.group(3)));
    }
    Checks.due("calls in README.md", Math.max(10, calls), calls);
    Checks.end("ReadmeTest");
  }

  private static long answer(SoldYear x, String name, String[] words) throws ReflectiveOperationException {
    for (Method act : SoldYear.class.getMethods()) {
      if (act.getName().equals(name) && act.getParameterCount() == words.length) {
        Object[] values = new Object[words.length];
        for (int i = 0; i < words.length; i++) {
          long value = Long.decode(words[i].replace("L", ""));
          values[i] = act.getParameterTypes()[i] == long.class ? (Object) value : (Object) (int) value;
        }
        return ((Number) act.invoke(x, values)).longValue();
      }
    }
    throw new IllegalStateException("no act " + name);
  }
}
