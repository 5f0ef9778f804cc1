import java.lang.reflect.Constructor;
import java.lang.reflect.Field;
import java.lang.reflect.Method;
import java.lang.reflect.Modifier;
import java.nio.file.Files;
import java.nio.file.Path;
import java.util.Arrays;
import java.util.HashSet;
import java.util.Set;
import java.util.TreeSet;
import java.util.regex.Matcher;
import java.util.regex.Pattern;

/** The public face as the document has it, and those rules of LANGUAGE.md that can be seen without reading closely. */
public final class FaceTest {
  private static final Path SHARED = Path.of("../shared");
  private static final Path SOURCE = Path.of("src/main/java/SoldYear.java");

  public static void main(String[] args) throws Exception {
    face();
    members();
    words();
    Checks.end("FaceTest");
  }

  private static String signature(Method method) {
    StringBuilder s = new StringBuilder(method.getReturnType().getName() + " " + method.getName());
    for (Class<?> type : method.getParameterTypes()) {
      s.append(' ').append(type.getName());
    }
    return s.toString();
  }

  private static void face() throws Exception {
    String doc = Files.readString(SHARED.resolve("DOC.md"));
    Set<String> due = new TreeSet<>();
    Matcher lines = Pattern.compile("(?m)^    public (int|long) (\\w+)\\((.*)\\);$").matcher(doc);
    while (lines.find()) {
      due.add((lines.group(1) + " " + lines.group(2) + " " + lines.group(3).replaceAll(" \\w+(, |$)", " ")).trim());
    }
    Set<String> got = new TreeSet<>();
    for (Method method : SoldYear.class.getDeclaredMethods()) {
      if (!Modifier.isPrivate(method.getModifiers()) && !method.isSynthetic()) {
        got.add(signature(method));
      }
    }
    Checks.due("acts of the document", due.size(), 43);
    if (!got.equals(due)) {
      System.out.println("face: " + got + "\ndue: " + due);
    }
    Checks.due("the face", got.equals(due) ? 1 : 0, 1);
  }

  private static void members() {
    Checks.due("public and final", SoldYear.class.getModifiers(), Modifier.PUBLIC | Modifier.FINAL);
    for (Field field : SoldYear.class.getDeclaredFields()) {
      Checks.due("field " + field.getName(), field.getModifiers() & Modifier.PRIVATE, Modifier.PRIVATE);
    }
    for (Constructor<?> constructor : SoldYear.class.getDeclaredConstructors()) {
      Checks.due("constructor's arguments", constructor.getParameterCount(), 0);
    }
    Set<String> acts = new HashSet<>();
    for (Method method : SoldYear.class.getDeclaredMethods()) {
      if (Modifier.isPublic(method.getModifiers())) {
        acts.add(method.getName());
      }
    }
    Class<?>[] inside = SoldYear.class.getDeclaredClasses();
    Checks.due("classes: twelve at most", Math.max(11, inside.length), 11);
    for (Class<?> type : inside) {
      Checks.due(type + " is static", type.getModifiers() & Modifier.STATIC, Modifier.STATIC);
      Checks.due(type + " fields", Math.max(20, countFields(type)), 20);
      privateOnes(type, acts);
    }
    privateOnes(SoldYear.class, acts);
  }

  private static long countFields(Class<?> type) {
    return Arrays.stream(type.getDeclaredFields()).filter(f -> !Modifier.isStatic(f.getModifiers())).count();
  }

  private static void privateOnes(Class<?> type, Set<String> acts) {
    for (Method method : type.getDeclaredMethods()) {
      if (!Modifier.isPublic(method.getModifiers())) {
        Checks.due(type + " " + method.getName() + " is no act's name", acts.contains(method.getName()) ? 1 : 0, 0);
      }
      Checks.due(type + " " + method.getName() + " takes seven at most", Math.max(7, method.getParameterCount()), 7);
    }
  }

  private static void words() throws Exception {
    String source = Files.readString(SOURCE);
    String code = source.replaceAll("(?s)/\\*.*?\\*/", "").replaceAll("//[^\n]*", "");
    String[] banned = {"throw", "throws", "try", "catch", "finally", "synchronized", "assert", "import java.util.[^A]",
        "Object", "System\\.(?!arraycopy)", "double", "float", "->", "::", "equals", "hashCode", "toString", "\\w+Exact",
        "package", "protected", "volatile", "native", "transient"};
    for (String word : banned) {
      String edge = Character.isLetter(word.charAt(0)) ? "\\b" : "";
      Matcher found = Pattern.compile(edge + word).matcher(code);
      Checks.due("source has " + word, found.find() ? 1 : 0, 0);
    }
    for (char c : source.toCharArray()) {
      if (c > 127) {
        Checks.due("a sign above 127", c, 0);
      }
    }
  }
}
