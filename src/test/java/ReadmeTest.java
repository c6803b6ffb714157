import java.lang.reflect.Method;
import java.nio.file.Files;
import java.nio.file.Path;
import java.util.regex.Matcher;
import java.util.regex.Pattern;

/** The examples of README.md, each call with the number that it says. */
public final class ReadmeTest {
  private static final Pattern MAKES = Pattern.compile("NeedlePlate x = new NeedlePlate\\(\\);.*");
  private static final Pattern CALLS = Pattern.compile("x\\.(\\w+)\\(([^)]*)\\);\\s*// (-?\\d+)\\b.*");
  private static final int FEWEST_CALLS = 20;

  private static NeedlePlate x = null;
  private static boolean inExample = false;
  private static int asked = 0;
  private static int wrong = 0;

  public static void main(String[] args) throws Exception {
    for (String line : Files.readAllLines(Path.of("README.md"))) {
      if (line.startsWith("```")) {
        inExample = line.equals("```java");
        x = null;
      } else if (inExample) {
        follow(line);
      }
    }
    due(asked >= FEWEST_CALLS, "README.md has but " + asked + " calls");
    System.out.println(wrong == 0 ? "all " + asked + " examples are as due" : wrong + " examples are not as due");
    if (wrong != 0) System.exit(1);
  }

  private static void follow(String line) throws Exception {
    Matcher call = CALLS.matcher(line);
    if (MAKES.matcher(line).matches()) {
      x = new NeedlePlate();
    } else if (x != null && call.matches()) {
      asked++;
      long got = answer(call.group(1), call.group(2));
      due(got == Long.parseLong(call.group(3)), "answered " + got + ": " + line);
    } else {
      due(false, "not an example's line: " + line);
    }
  }

  private static long answer(String name, String arguments) throws Exception {
    String[] words = arguments.isEmpty() ? new String[0] : arguments.split(", ");
    for (Method m : NeedlePlate.class.getMethods()) {
      if (m.getName().equals(name) && m.getParameterCount() == words.length) {
        return ((Number) m.invoke(x, values(m.getParameterTypes(), words))).longValue();
      }
    }
    throw new IllegalArgumentException("no such call: " + name + "(" + arguments + ")");
  }

  private static Object[] values(Class<?>[] types, String[] words) {
    Object[] values = new Object[words.length];
    for (int i = 0; i < words.length; i++) {
      values[i] = types[i] == boolean.class ? (Object) Boolean.parseBoolean(words[i]) : Integer.valueOf(words[i]);
    }
    return values;
  }

  private static void due(boolean holds, String what) {
    if (!holds) {
      wrong++;
      System.out.println(what);
    }
  }
}
