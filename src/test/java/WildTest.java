import java.lang.reflect.InvocationTargetException;
import java.lang.reflect.Method;
import java.util.ArrayList;
import java.util.Comparator;
import java.util.List;
import java.util.Map;
import java.util.NoSuchElementException;
import java.util.Random;
import java.util.function.Supplier;

/**
 * Whatever the arguments are and whatever came ahead: no call throws but look() with its own two, calls that only ask change
 * nothing, and calls that are refused change nothing.
 */
public final class WildTest {
  private static final int[] WILD = {Integer.MIN_VALUE, Integer.MIN_VALUE + 1, -1000001, -1000000, -100000, -36001, -36000, -2, -1, 0, 1,
    2, 3, 4, 5, 6, 7, 8, 9, 10, 11, 12, 13, 15, 16, 29, 30, 31, 60, 120, 121, 167, 168, 500, 501, 600, 700, 701, 1999, 2000, 2001,
    36000, 36001, 99999, 100000, 100001, 1000000, 1000001, Integer.MAX_VALUE - 1, Integer.MAX_VALUE};
  private static final int DRAWN = 1500;
  /** What a refused call answers, of those that change something. */
  private static final Map<String, Long> REFUSED = Map.of("feed", -1L, "hours", -1L, "pass", (long) Integer.MIN_VALUE, "reading", -1L,
      "known", 0L, "back", -1L, "text", -2L);
  private static final List<String> CHANGING = List.of("feed", "hours", "pass", "reading", "known", "back", "text", "keep");
  private static int wrong = 0;

  public static void main(String[] args) {
    Sentences doc = new Sentences();
    List<Supplier<PassedClocks>> states = List.of(
        PassedClocks::new,
        () -> doc.after(3, ""),
        () -> doc.told("clock a 5;"),
        () -> doc.after(2000, "person p 5 sets;"),
        () -> used(doc, 30),
        () -> used(doc, 2000));
    for (int i = 0; i < states.size(); i++) {
      for (Method method : methods()) tryAll(states.get(i), i, method);
    }
    System.out.println(wrong == 0 ? "no call goes wild" : wrong + " calls go wild");
    if (wrong != 0) System.exit(1);
  }

  private static List<Method> methods() {
    List<Method> all = new ArrayList<>();
    for (Method method : PassedClocks.class.getDeclaredMethods()) {
      if (java.lang.reflect.Modifier.isPublic(method.getModifiers())) all.add(method);
    }
    all.sort(Comparator.comparing(Method::getName));
    return all;
  }

  private static PassedClocks used(Sentences doc, int hours) {
    PassedClocks x = doc.told("clock a 5 gains 1 rough 6;clock b -70;person p 9 middle 2 if ahead/last<9;person q 3 part 1 2;person r 4 half rough 60;"
        + "round p a 3;round q b 4;round r a 4;gun b 9;");
    x.hours(5);
    x.pass(2, 1);
    x.keep();
    doc.goTo(x, hours);
    x.pass(0, 1);
    for (int i = 0; i < 30; i++) x.reading(i % 5, i, -1000, 9000);
    x.known(29);
    Sentences.feed(x, "clock c 1;");
    return x;
  }

  private static void tryAll(Supplier<PassedClocks> state, int number, Method method) {
    PassedClocks x = state.get();
    String before = answers(x);
    Random random = new Random(method.getName().hashCode());
    int parameters = method.getParameterCount();
    int tries = parameters == 0 ? 1 : parameters == 1 ? WILD.length : parameters == 2 ? WILD.length * WILD.length : DRAWN;
    for (int i = 0; i < tries; i++) {
      Object[] given = given(method, parameters < 3 ? i : -1, random);
      Long answer = answer(x, method, given, number);
      boolean asks = !CHANGING.contains(method.getName());
      boolean refused = answer != null && answer.equals(REFUSED.get(method.getName()));
      if (!asks && !refused) {
        x = state.get();
      } else if (i % 50 == 0 || !asks) {
        String after = answers(x);
        if (!after.equals(before)) {
          say(number, method, given, "changed something");
          x = state.get();
        }
      }
    }
    if (!CHANGING.contains(method.getName()) && !answers(x).equals(before)) say(number, method, new Object[0], "changed something");
  }

  /** All pairs by a number, else drawn. */
  private static Object[] given(Method method, int number, Random random) {
    Class<?>[] types = method.getParameterTypes();
    Object[] given = new Object[types.length];
    for (int i = 0; i < types.length; i++) {
      int at = number < 0 ? random.nextInt(WILD.length) : i == 0 ? number % WILD.length : number / WILD.length;
      // Small numbers are mostly such as there are, so that the other arguments are looked at, too.
      int value = number < 0 && random.nextInt(3) > 0 ? random.nextInt(3) : WILD[at];
      if (types[i] == int.class) given[i] = value;
      else if (types[i] == long.class) given[i] = random.nextInt(3) > 0 ? (long) value : random.nextLong();
      else given[i] = random.nextBoolean();
    }
    return given;
  }

  private static Long answer(PassedClocks x, Method method, Object[] given, int number) {
    try {
      Object answer = method.invoke(x, given);
      return answer instanceof Boolean ? ((Boolean) answer ? 1L : 0L) : ((Number) answer).longValue();
    } catch (InvocationTargetException e) {
      Throwable thrown = e.getCause();
      boolean own = thrown.getClass() == IndexOutOfBoundsException.class || thrown.getClass() == NoSuchElementException.class;
      if (!method.getName().equals("look") || !own) say(number, method, given, "threw " + thrown);
      return null;
    } catch (IllegalAccessException e) {
      throw new IllegalStateException(e);
    }
  }

  private static void say(int number, Method method, Object[] given, String what) {
    wrong++;
    System.out.println("state " + number + ": " + method.getName() + List.of(given) + " " + what);
  }

  /** What is there now. */
  private static String answers(PassedClocks x) {
    StringBuilder s = new StringBuilder();
    for (int what = 0; what < 9; what++) s.append(x.count(what)).append(' ');
    int hour = x.count(6);
    for (int thing = 0; thing < x.count(0) + x.count(1); thing++) {
      s.append(x.off(thing)).append(' ').append(x.was(thing, 4)).append(' ').append(x.was(thing, hour - 1)).append(' ');
    }
    for (int person = 0; person < x.count(1); person++) {
      for (int what = 0; what < 3; what++) s.append(x.now(person, what)).append(' ');
    }
    s.append(x.spread(hour - 1)).append(' ').append(x.fault(0)).append(' ').append(x.fault(1)).append(' ').append(x.judged());
    s.append(' ').append(x.other(4, 0, 0)).append(' ').append(x.named(0, 1 << 25));
    return s.toString();
  }
}
