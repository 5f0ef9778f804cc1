import java.lang.reflect.Method;
import java.lang.reflect.Modifier;
import java.util.Arrays;
import java.util.HashMap;
import java.util.Map;

/** A SoldYear and a NaiveYear that have the same calls; each answer of the one is due as the other one gives it. */
final class Both {
  private static final Map<String, Method> ASKED = methodsOf(SoldYear.class);
  private static final Map<String, Method> MODEL = methodsOf(NaiveYear.class);

  final SoldYear x = new SoldYear();
  final NaiveYear y = new NaiveYear();
  private final StringBuilder story = new StringBuilder();

  private static Map<String, Method> methodsOf(Class<?> type) {
    Map<String, Method> methods = new HashMap<>();
    for (Method method : type.getDeclaredMethods()) {
      if (!Modifier.isPrivate(method.getModifiers())) {
        methods.put(method.getName(), method);
      }
    }
    return methods;
  }

  /** The arguments are ints; for a long one an int or a long will do. */
  void ask(String name, Object... args) throws ReflectiveOperationException {
    String call = name + Arrays.toString(args);
    long want = ((Number) MODEL.get(name).invoke(y, args)).longValue();
    story.append(call).append(" = ").append(want).append('\n');
    Checks.due(call, ((Number) ASKED.get(name).invoke(x, args)).longValue(), want);
  }

  /** All calls up to now, with the answers that were due. */
  String story() {
    return story.toString();
  }
}
