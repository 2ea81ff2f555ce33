import java.io.IOException;
import java.lang.reflect.Method;
import java.lang.reflect.Modifier;
import java.nio.file.DirectoryStream;
import java.nio.file.Files;
import java.nio.file.Path;
import java.util.regex.Matcher;
import java.util.regex.Pattern;

/** README.md says how to use the class: its calls answer what it says, its lines are a text, and no call or test is left out. */
public final class ReadmeTest {
  private static int wrong = 0;

  private static void must(boolean holds, String what) {
    if (!holds) {
      wrong++;
      System.out.println(what);
    }
  }

  public static void main(String[] args) throws IOException, ReflectiveOperationException {
    String page = Files.readString(Path.of("README.md"));
    example(page);
    texts(page);
    for (Method m : PassedClocks.class.getDeclaredMethods()) {
      if (Modifier.isPublic(m.getModifiers())) must(page.contains("`" + m.getName() + "`"), "README.md doesn't name " + m.getName());
    }
    try (DirectoryStream<Path> tests = Files.newDirectoryStream(Path.of("src/test/java"), "*.java")) {
      for (Path test : tests) {
        String name = test.getFileName().toString().replace(".java", "");
        must(page.contains("`" + name + "`"), "README.md doesn't name " + name);
      }
    }
    System.out.println(wrong == 0 ? "README.md holds" : wrong + " things of README.md don't hold");
    if (wrong != 0) System.exit(1);
  }

  /** Each line of the form x.call(..); // answer. */
  private static void example(String page) throws ReflectiveOperationException {
    int from = page.indexOf("```java");
    int until = page.indexOf("```", from + 7);
    must(from >= 0 && until > from, "README.md has no example");
    PassedClocks x = new PassedClocks();
    Matcher line = Pattern.compile("(?m)^x\\.(\\w+)\\((.*?)\\); *// (-?\\d+)").matcher(page.substring(Math.max(from, 0), Math.max(until, 0)));
    int calls = 0;
    while (line.find()) {
      calls++;
      long got = call(x, line.group(1), line.group(2).isBlank() ? new String[0] : line.group(2).split(", *"));
      must(got == Long.parseLong(line.group(3)), line.group() + ": it answers " + got);
    }
    must(calls >= 10, "README.md shows only " + calls + " calls");
  }

  private static long call(PassedClocks x, String name, String[] words) throws ReflectiveOperationException {
    for (Method m : PassedClocks.class.getMethods()) {
      if (!m.getName().equals(name) || m.getParameterCount() != words.length) continue;
      Object[] values = new Object[words.length];
      for (int i = 0; i < values.length; i++) {
        boolean truth = m.getParameterTypes()[i] == boolean.class;
        values[i] = truth ? (Object) Boolean.valueOf(words[i]) : (Object) Integer.decode(words[i]);
      }
      return ((Number) m.invoke(x, values)).longValue();
    }
    throw new IllegalStateException("no such call: " + name);
  }

  /** The lines shown are a text without a fault, all together. */
  private static void texts(String page) {
    StringBuilder text = new StringBuilder();
    Matcher line = Pattern.compile("(?m)^    ((?:clock|person|round|gun) [^;\n]*;)").matcher(page);
    while (line.find()) text.append(line.group(1)).append('\n');
    PassedClocks x = new PassedClocks();
    must(Sentences.text(x, text.toString()) == 4, "the lines shown have a fault " + x.fault(0) + " at " + x.fault(1));
  }
}
