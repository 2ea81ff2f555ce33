import java.lang.management.ManagementFactory;

/** What the dearest calls take in room and time: all of a run lives in one room, so calls should make nothing. */
public final class RoomTest {
  private static int wrong = 0;

  private static void must(boolean holds, String what) {
    if (!holds) {
      wrong++;
      System.out.println(what);
    }
  }

  private static long allocated() {
    return ((com.sun.management.ThreadMXBean) ManagementFactory.getThreadMXBean()).getCurrentThreadAllocatedBytes();
  }

  private static void feed(PassedClocks x, String s) {
    StringBuilder b = new StringBuilder(s);
    while (b.length() % 20 != 0) b.append(' ');
    for (int i = 0; i < b.length(); i += 20) {
      int[] v = new int[5];
      for (int k = 0; k < 20; k++) v[k / 4] = v[k / 4] << 8 | b.charAt(i + k);
      x.feed(v[0], v[1], v[2], v[3], v[4]);
    }
  }

  private static String dearest() {
    StringBuilder s = new StringBuilder();
    for (char c = 'a'; c <= 'e'; c++) s.append("clock ").append(c).append(" 9 rough 9 gains 9;");
    s.append("person a 5 middle 5 rough 9 gains 1 if 1").append("+1".repeat(31)).append(";");
    for (char c = 'b'; c <= 'e'; c++) s.append("person ").append(c).append(" 5 middle 5 rough 9;");
    for (int i = 0; i < 12; i++) s.append("round a ").append((char) ('a' + i % 5)).append(' ').append(14 * i).append(";");
    for (int i = 0; i < 3; i++) s.append("gun a ").append(i).append(";");
    return s.toString();
  }

  public static void main(String[] args) {
    allocated();
    long before = allocated();
    // Asking makes something by itself.
    long asking = allocated() - before;
    before = allocated();
    PassedClocks x = new PassedClocks();
    long made = allocated() - before - asking;
    must(made < 400000, "a new object takes " + made + " bytes");
    feed(x, dearest());
    int n = dearest().length();
    must(n <= 700, "the text is too long");
    must(x.text(n) == 25, "the text has a fault " + x.fault(0) + " at " + x.fault(1));
    for (int i = 0; i < 4; i++) x.hours(500);
    for (int i = 0; i < 30; i++) x.reading(i % 10, 1999 - i, -1000000, 1000000);
    for (int round = 0; round < 2; round++) {
      before = allocated();
      long clock = System.nanoTime();
      long sum = 0;
      for (int i = 0; i < 10; i++) {
        sum += x.purpose(i % 5, i / 2, i, true, 0) + x.often(i % 5, 100000) + x.often(i % 5, 5);
        sum += x.wrong(i) + x.judged() + x.fewest(0, 0) + x.agree(1000) + x.moved(i, 0, 5) + x.tried(7, 0) + x.row(12, 0, 0, i);
      }
      sum += x.ends(0, 0);
      x.keep();
      x.back();
      long took = allocated() - before - asking;
      System.out.println("dear calls: " + took + " bytes, " + (System.nanoTime() - clock) / 1000000 + " ms, " + sum);
      // The first time the machine itself may make something while it links the calls.
      if (round > 0) must(took <= 0, "the calls make " + took + " bytes");
    }
    if (wrong != 0) System.exit(1);
  }
}
