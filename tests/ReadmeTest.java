import java.lang.reflect.Method;
import java.nio.charset.StandardCharsets;
import java.nio.file.Files;
import java.nio.file.Path;
import java.nio.file.Paths;
import java.util.List;
import java.util.Set;
import java.util.TreeSet;
import java.util.regex.Matcher;
import java.util.regex.Pattern;

/** README.md shows how the class is used: each call of its examples answers what stands behind it. */
public final class ReadmeTest extends Checks {
  private static final String MADE = "SmokeLeans x = new SmokeLeans();";
  private static final Pattern CALL = Pattern.compile("x\\.(\\w+)\\((.*?)\\); +// (-?\\d+)(: .*)?");
  private static final Pattern TOLD_BYTES = Pattern.compile(": \"(.*)\"");

  public static void main(String[] args) throws Exception {
    List<String> lines = Files.readAllLines(readme(), StandardCharsets.UTF_8);
    boolean inExample = false;
    int calls = 0;
    SmokeLeans x = null;
    for (String line : lines) {
      if (line.startsWith("```")) {
        inExample = line.equals("```java");
      } else if (inExample && line.equals(MADE)) {
        x = new SmokeLeans();
      } else if (inExample) {
        check(x, line);
        calls++;
      }
    }
    if (calls < 50) complain("only " + calls + " calls were found");
    checkAllCallsAreNamed(lines);
    end("README.md tells the use as it is");
  }

  private static Path readme() {
    Path at = Paths.get(System.getProperty("source")).toAbsolutePath();
    for (int up = 0; up < 4; up++) at = at.getParent();
    return at.resolve("README.md");
  }

  private static void check(SmokeLeans x, String line) throws Exception {
    Matcher m = CALL.matcher(line);
    if (x == null || !m.matches()) {
      complain("no call: " + line);
      return;
    }
    Method call = named(m.group(1));
    String[] told = m.group(2).isEmpty() ? new String[0] : m.group(2).split(", ");
    Object[] given = new Object[told.length];
    for (int i = 0; i < told.length; i++) given[i] = value(told[i], call.getParameterTypes()[i]);
    due(line, ((Number) call.invoke(x, given)).longValue(), Long.parseLong(m.group(3)));
    if (m.group(1).equals("feed")) checkBytes(line, (Integer) given[0], m.group(4));
  }

  private static Method named(String name) {
    for (Method m : SmokeLeans.class.getMethods()) if (m.getName().equals(name)) return m;
    throw new IllegalStateException("no call " + name);
  }

  private static Object value(String told, Class<?> type) {
    if (type == boolean.class) return Boolean.valueOf(told);
    long v = Long.decode(told);
    if (type == long.class) return v;
    return (int) v;
  }

  private static void checkBytes(String line, int bytes, String told) {
    Matcher m = TOLD_BYTES.matcher(told);
    if (!m.matches()) {
      complain("no bytes told: " + line);
      return;
    }
    int due = 0;
    for (char c : m.group(1).toCharArray()) due = due << 8 | c;
    due("bytes of " + line, bytes, due);
  }

  private static void checkAllCallsAreNamed(List<String> lines) {
    Set<String> missing = new TreeSet<>();
    for (Method m : SmokeLeans.class.getDeclaredMethods()) {
      if (java.lang.reflect.Modifier.isPublic(m.getModifiers())) missing.add(m.getName());
    }
    for (String line : lines) {
      if (line.startsWith("| `")) missing.removeIf(name -> line.contains("`" + name + "`"));
    }
    for (String name : missing) complain("README.md doesn't name " + name);
  }
}
