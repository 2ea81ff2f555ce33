import java.io.IOException;
import java.lang.reflect.Constructor;
import java.lang.reflect.Field;
import java.lang.reflect.Method;
import java.lang.reflect.Modifier;
import java.nio.file.Files;
import java.nio.file.Path;
import java.util.ArrayList;
import java.util.Arrays;
import java.util.List;
import java.util.Map;
import java.util.Set;
import java.util.TreeMap;
import java.util.TreeSet;
import java.util.regex.Matcher;
import java.util.regex.Pattern;

/** The class's face is the document's, and its source keeps to what can be seen of LANGUAGE.md from the lines alone. */
public final class FaceTest {
  private static int wrong = 0;

  private static void must(boolean holds, String what) {
    if (!holds) {
      wrong++;
      System.out.println(what);
    }
  }

  private static final String[] FACE = {
    "int feed(int, int, int, int, int)", "int text(int)", "int fault(int)", "int named(int, int)", "int look(int, int)",
    "int clock(int, int)", "int round(int, int)", "int hours(int)", "int off(int)", "int now(int, int)", "int was(int, int)",
    "int spread(int)", "int pass(int, int)", "int row(int, long, long, int)", "long rule(int, int, int, int, int)",
    "int moved(int, int, int)", "int ends(int, int)", "int reading(int, int, int, int)", "boolean known(int)", "int judged()",
    "int wrong(int)", "int way(int, int)", "int tried(int, int)", "int other(int, int, int)", "int agree(int)",
    "int often(int, int)", "int fewest(int, int)", "int purpose(int, int, int, boolean, int)", "int waits(int, int)",
    "int keep()", "int back()", "int count(int)"};

  public static void main(String[] args) throws IOException {
    members();
    String source = Files.readString(Path.of("src/main/java/PassedClocks.java"));
    forbidden(source);
    methods(source);
    System.out.println(wrong == 0 ? "the face and the language are kept" : wrong + " things are not as they must be");
    if (wrong != 0) System.exit(1);
  }

  private static void members() {
    Class<?> c = PassedClocks.class;
    must(Modifier.isPublic(c.getModifiers()) && Modifier.isFinal(c.getModifiers()), "the class is not public and final");
    Set<String> publicNames = new TreeSet<>();
    Set<String> privateNames = new TreeSet<>();
    List<String> seen = new ArrayList<>();
    for (Method m : c.getDeclaredMethods()) {
      if (m.isSynthetic()) continue;
      if (Modifier.isPrivate(m.getModifiers())) {
        privateNames.add(m.getName());
        continue;
      }
      publicNames.add(m.getName());
      must(Modifier.isPublic(m.getModifiers()) && !Modifier.isStatic(m.getModifiers()), m + " is not public");
      seen.add(signature(m));
      List<Class<?>> thrown = Arrays.asList(m.getExceptionTypes());
      List<Class<?>> due = m.getName().equals("look")
          ? List.of(IndexOutOfBoundsException.class, java.util.NoSuchElementException.class) : List.of();
      must(thrown.equals(due), m + " throws " + thrown);
    }
    for (String f : FACE) must(seen.remove(f), "missing: " + f);
    must(seen.isEmpty(), "not in the document: " + seen);
    privateNames.retainAll(publicNames);
    must(privateNames.isEmpty(), "private methods named as public ones: " + privateNames);
    Constructor<?>[] made = c.getDeclaredConstructors();
    must(made.length == 1 && Modifier.isPublic(made[0].getModifiers()) && made[0].getParameterCount() == 0, "the constructor");
    int fields = 0;
    for (Field f : c.getDeclaredFields()) {
      must(Modifier.isPrivate(f.getModifiers()) || f.getName().equals("NONE"), f + " is not private");
      if (Modifier.isStatic(f.getModifiers())) must(Modifier.isFinal(f.getModifiers()), f + " is not final");
      else fields++;
    }
    must(fields <= 20, fields + " fields");
    Class<?>[] inside = c.getDeclaredClasses();
    must(inside.length <= 12, inside.length + " classes");
    for (Class<?> i : inside) {
      must(Modifier.isStatic(i.getModifiers()) && !Modifier.isPublic(i.getModifiers()), i + " is public or not static");
      must(i.getDeclaredFields().length <= 20, i + " has many fields");
      for (Method m : i.getDeclaredMethods()) must(!publicNames.contains(m.getName()), m + " is named as one of the face");
    }
  }

  private static String signature(Method m) {
    List<String> l = new ArrayList<>();
    for (Class<?> p : m.getParameterTypes()) l.add(p.getSimpleName());
    return m.getReturnType().getSimpleName() + " " + m.getName() + "(" + String.join(", ", l) + ")";
  }

  private static final String[] FORBIDDEN = {"->", "::", "\\bfinally\\b", "\\bsynchronized\\b", "\\bassert\\b", "\\bcatch\\b",
    "\\brecord\\b", "Exact\\(", "\\bdouble\\b", "\\bfloat\\b", "\\bThrowable\\b", "\\bObject\\b", "System\\.(?!arraycopy)",
    "String\\.", "\"\\s*\\+", "\\+\\s*\"", "\\bstatic\\s*\\{", "\\bvar\\b", "\\bpackage\\b", "^import (?!java\\.util\\.(Arrays|NoSuchElementException);)",
    "\\bhashCode\\b", "\\btoString\\b", "\\binstanceof\\b", "\\bwhile \\(true\\)", "for \\(;;\\)", "[^\\x00-\\x7f]"};

  private static String bare(String source) {
    return source.replaceAll("(?s)/\\*.*?\\*/", "").replaceAll("//[^\n]*", "");
  }

  private static void forbidden(String source) {
    String code = bare(source);
    for (String f : FORBIDDEN) {
      Matcher m = Pattern.compile(f, Pattern.MULTILINE).matcher(code);
      while (m.find()) must(false, "forbidden: " + f + " near " + code.substring(Math.max(0, m.start() - 20), Math.min(code.length(), m.end() + 20)));
    }
    for (String line : source.split("\n")) must(line.length() <= 130, "a long line: " + line);
  }

  /** Lengths, parameters, and how deep calls go, with the rules' grammar (the one recursion) counted as one level. */
  private static void methods(String source) {
    Map<String, Set<String>> calls = new TreeMap<>();
    Map<String, String> bodies = new TreeMap<>();
    Pattern head = Pattern.compile("(?m)^ +(?:public |private |static |final )*[\\w\\[\\]]+ (\\w+)\\(([^)]*)\\)[^;{=]*\\{$");
    String code = bare(source);
    Matcher m = head.matcher(code);
    while (m.find()) {
      if (List.of("if", "for", "while", "switch").contains(m.group(1))) continue;
      int open = m.end() - 1;
      int depth = 0;
      int at = open;
      do {
        char c = code.charAt(at++);
        if (c == '{') depth++;
        if (c == '}') depth--;
      } while (depth > 0);
      String body = code.substring(open, at);
      must(body.split("\n").length <= 60, m.group(1) + " is long");
      must(m.group(2).isEmpty() || m.group(2).split(",").length <= 7, m.group(1) + " has many parameters");
      bodies.merge(m.group(1), body, String::concat);
    }
    must(bodies.size() > 80, "only " + bodies.size() + " methods seen");
    for (Map.Entry<String, String> b : bodies.entrySet()) {
      Set<String> to = new TreeSet<>();
      Matcher call = Pattern.compile("(\\w+)\\(").matcher(b.getValue());
      while (call.find()) if (bodies.containsKey(call.group(1))) to.add(call.group(1));
      calls.put(b.getKey(), to);
    }
    for (String f : FACE) {
      String name = f.replaceAll("^\\w+ (\\w+)\\(.*", "$1");
      int deep = deep(name, calls, new ArrayList<>());
      must(deep <= 8, name + " goes " + deep + " deep");
    }
  }

  private static final Set<String> GRAMMAR =
      Set.of("readEither", "readBoth", "readNot", "readCompared", "readSum", "readProduct", "readPart");

  private static int deep(String name, Map<String, Set<String>> calls, List<String> path) {
    if (path.contains(name)) return 0;
    path.add(name);
    int most = 0;
    for (String to : calls.get(name)) most = Math.max(most, deep(to, calls, path));
    path.remove(path.size() - 1);
    return most + (GRAMMAR.contains(name) && !name.equals("readEither") ? 0 : 1);
  }
}
