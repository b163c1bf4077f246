import java.io.IOException;
import java.lang.reflect.Method;
import java.nio.file.Files;
import java.nio.file.Path;
import java.util.Arrays;
import java.util.List;
import java.util.TreeSet;
import java.util.regex.Matcher;
import java.util.regex.Pattern;

/** The example in README.md answers what it says, and README.md names every call. */
public final class ReadmeTests {
  static final Pattern CALL = Pattern.compile("x\\.(\\w+)\\(([-\\d, ]*)\\);\\s+// (\\w+|-\\d+):? ?.*");

  static int wrong = 0, asked = 0;

  static void fails(String what) { wrong++; System.out.println("README.md: " + what); }

  static Method methodOf(String call, int parameters) throws NoSuchMethodException {
    Class<?>[] types = new Class<?>[parameters];
    Arrays.fill(types, int.class);
    return MovedWays.class.getMethod(call, types);
  }

  static int due(String sign) throws ReflectiveOperationException {
    return sign.matches("-?\\d+") ? Integer.parseInt(sign) : MovedWays.class.getField(sign).getInt(null);
  }

  static void example(List<String> lines) throws ReflectiveOperationException {
    MovedWays x = new MovedWays();
    for (String line : lines) {
      if (line.isBlank() || line.equals("MovedWays x = new MovedWays();")) continue;
      Matcher call = CALL.matcher(line);
      if (!call.matches()) { fails("can't be read: " + line); continue; }
      String with = call.group(2).trim();
      Object[] numbers = with.isEmpty() ? new Object[0] : Arrays.stream(with.split(",")).map(s -> (Object) Integer.valueOf(s.trim())).toArray();
      Object got = methodOf(call.group(1), numbers.length).invoke(x, numbers);
      asked++;
      if (!got.equals(due(call.group(3)))) fails(line + " answered " + got);
    }
  }

  public static void main(String[] args) throws IOException, ReflectiveOperationException {
    Path root = Path.of(System.getProperty("main")).resolve("../../../..").normalize();
    String text = Files.readString(root.resolve("README.md"));
    int from = text.indexOf("```java\n"), to = text.indexOf("\n```", from + 1);
    if (from < 0 || to < 0) fails("has no example");
    else example(List.of(text.substring(from + 8, to).split("\n")));
    TreeSet<String> calls = new TreeSet<>();
    for (Method m : MovedWays.class.getDeclaredMethods()) if (java.lang.reflect.Modifier.isPublic(m.getModifiers())) calls.add(m.getName());
    for (String call : calls) if (!text.contains("`" + call + "(")) fails("does not tell " + call);
    System.out.println(wrong == 0 && asked > 0 ? asked + " answers are as README.md says" : wrong + " are wrong");
    if (wrong != 0 || asked == 0) System.exit(1);
  }
}
