import java.util.ArrayList;
import java.util.List;
import java.util.NoSuchElementException;
import java.util.Random;

/**
 * Runs of calls drawn from fixed seeds, each answered by PassedClocks and by PlainClocks: all answers must be alike.
 * Arguments: the first seed and how many (0 and 3000 without).
 */
public final class ComparedTest {
  private static int wrong = 0;
  private final Random random;
  private final long seed;
  private PassedClocks quick = new PassedClocks();
  private PlainClocks plain = new PlainClocks();
  private final List<String> calls = new ArrayList<>();
  private int clocks = 0;
  private int people = 0;
  private int hour = 0;
  private boolean swings = false;

  private ComparedTest(long seed) {
    this.seed = seed;
    this.random = new Random(seed * 7919 + 17);
  }

  public static void main(String[] args) {
    long from = args.length > 0 ? Long.parseLong(args[0]) : 0;
    long many = args.length > 1 ? Long.parseLong(args[1]) : 3000;
    for (long s = from; s < from + many && wrong < 5; s++) new ComparedTest(s).run();
    System.out.println(wrong == 0 ? "all runs are alike" : wrong + " runs are not alike");
    if (wrong != 0) System.exit(1);
  }

  // ---- texts

  private int below(int n) { return random.nextInt(n); }
  private boolean chance(int of100) { return below(100) < of100; }
  private <T> T one(List<T> l) { return l.get(below(l.size())); }

  private static final List<String> CLOCK_NAMES = List.of("a", "ab", "tower", "church", "z", "moon", "ahea");
  private static final List<String> PERSON_NAMES = List.of("p", "q", "ab", "zzzzzz", "mayor", "smith", "a", "iff");
  private static final List<String> ANY = List.of("clock", "person", "round", "gun", "gains", "rough", "if", "sets", "takes",
      "half", "part", "middle", "or", "and", "not", "ahead", "last", "passed", "hour", "day", ";", "(", ")", "+", "-", "*", "/",
      "<", "<=", "=", "<>", ">=", ">", "0", "1", "7", "60", "61", "167", "168", "600", "601", "36000", "36001", "99999", "100000",
      "00000000000000000005", "4294967297", "a", "p", "abcdef", "abcdefg", "?", "\t", "A", "\u0000", "\u00ff", "\u00e9", "e", "<>=", "><", "=<");

  private void option(List<String> t, String what, boolean clock) {
    t.add(what);
    if (what.equals("gains")) signed(t, 600);
    else if (what.equals("rough")) t.add(number(36000));
    else expression(t, 1 + below(4), 0);
  }

  private String number(int most) {
    switch (below(6)) {
      case 0: return String.valueOf(below(Math.min(most, 10) + 1));
      case 1: return String.valueOf(Math.min(most, 60 * below(11)));
      case 2: return String.valueOf(most);
      case 3: return "0";
      default: return String.valueOf(below(most + 1));
    }
  }

  private void signed(List<String> t, int most) {
    if (chance(40)) t.add("-");
    t.add(chance(60) ? String.valueOf(below(Math.min(most, 900) + 1)) : number(most));
  }

  private void expression(List<String> t, int depth, int level) {
    if (depth <= 0 || chance(15)) {
      t.add(chance(45) ? one(List.of("0", "1", "2", "3", "7", "60", "100", "99999", "12345")) : one(List.of("ahead", "last", "passed", "hour", "day", "ahead", "ahead")));
      return;
    }
    switch (below(9)) {
      case 0: t.add("("); expression(t, depth - 1, 0); t.add("or"); expression(t, depth - 1, 0); t.add(")"); return;
      case 1: t.add("("); expression(t, depth - 1, 0); t.add("and"); expression(t, depth - 1, 0); t.add(")"); return;
      case 2: t.add("("); t.add("not"); expression(t, depth - 1, 0); t.add(")"); return;
      case 3: t.add("("); expression(t, depth - 1, 0); t.add(")"); return;
      case 4:
      case 5:
        if (level > 0) t.add("(");
        expression(t, depth - 1, 1);
        t.add(one(List.of("<", "<=", "=", "<>", ">=", ">")));
        expression(t, depth - 1, 1);
        if (level > 0) t.add(")");
        return;
      default:
        expression(t, depth - 1, 1);
        t.add(one(List.of("+", "-", "*", "/", "*")));
        expression(t, depth - 1, 1);
    }
  }

  private void thing(List<String> t, boolean clock, List<String> names) {
    t.add(clock ? "clock" : "person");
    String name = one(clock ? CLOCK_NAMES : PERSON_NAMES);
    for (int i = 0; i < 20 && names.contains(name) && !chance(2); i++) name = one(clock ? CLOCK_NAMES : PERSON_NAMES);
    names.add(name);
    t.add(name);
    signed(t, 36000);
    if (!clock) {
      switch (below(6)) {
        case 0: t.add("sets"); break;
        case 1: t.add("takes"); break;
        case 2: t.add("half"); break;
        case 3:
          int m = 1 + below(60);
          t.add("part"); t.add(String.valueOf(1 + below(m))); t.add(String.valueOf(m));
          break;
        default: t.add("middle"); t.add(String.valueOf(1 + below(5)));
      }
    }
    List<String> options = new ArrayList<>(List.of("gains", "rough"));
    if (!clock) options.add("if");
    while (!options.isEmpty()) {
      String o = options.remove(below(options.size()));
      if (chance(o.equals("rough") ? 35 : 40)) option(t, o, clock);
    }
    t.add(";");
  }

  private List<String> tokens() {
    List<String> t = new ArrayList<>();
    List<String> c = new ArrayList<>();
    List<String> p = new ArrayList<>();
    int toClocks = chance(10) ? below(7) : 1 + below(4);
    int toPeople = chance(10) ? below(7) : 1 + below(4);
    while (c.size() < toClocks || p.size() < toPeople) {
      boolean clock = p.size() >= toPeople || c.size() < toClocks && chance(50);
      thing(t, clock, clock ? c : p);
    }
    int few = 1 + below(8);
    int[] usual = new int[few];
    for (int i = 0; i < few; i++) usual[i] = chance(60) ? below(24) : below(168);
    int rounds = c.isEmpty() || p.isEmpty() ? 0 : below(13) + (chance(4) ? 2 : 0);
    for (int i = 0; i < rounds; i++) t.addAll(List.of("round", one(p), one(c), String.valueOf(usual[below(few)]), ";"));
    int guns = c.isEmpty() ? 0 : below(4) + (chance(4) ? 2 : 0);
    for (int i = 0; i < guns; i++) t.addAll(List.of("gun", one(c), String.valueOf(usual[below(few)]), ";"));
    return t;
  }

  private void spoil(List<String> t) {
    for (int i = 1 + below(2); i > 0 && !t.isEmpty(); i--) {
      int at = below(t.size());
      switch (below(5)) {
        case 0: t.remove(at); break;
        case 1: t.add(at, one(ANY)); break;
        case 2: t.set(at, one(ANY)); break;
        case 3: t.add(at, t.get(below(t.size()))); break;
        default: while (t.size() > at) t.remove(t.size() - 1);
      }
    }
  }

  private static boolean wordy(char c) { return c >= 'a' && c <= 'z' || c >= '0' && c <= '9'; }

  private String joined(List<String> t) {
    StringBuilder s = new StringBuilder();
    boolean wide = chance(10);
    for (String x : t) {
      boolean stick = s.length() > 0 && wordy(s.charAt(s.length() - 1)) && wordy(x.charAt(0));
      boolean sign = s.length() > 0 && "<>".indexOf(s.charAt(s.length() - 1)) >= 0 && "=>".indexOf(x.charAt(0)) >= 0;
      if (stick && below(2000) > 0 || sign && chance(50) || wide && chance(50)) s.append(chance(90) ? " " : "\n");
      s.append(x);
    }
    if (chance(20)) s.append(" \n ");
    return s.toString();
  }

  private String manyKnots() {
    StringBuilder s = new StringBuilder();
    s.append("clock c 5;person p 0 sets if ");
    int knots = 60 + below(8);
    s.append(one(List.of("1", "ahead")));
    for (int k = 1; k < knots; k += 2) s.append(one(List.of("+", "-", "*", "<>", " or ", " and "))).append(one(List.of("1", "last", "(2)")));
    s.append(";person q 0 sets if ").append(one(List.of("not not 1", "1", "0=0"))).append(";");
    return s.toString();
  }

  private String manyOpen() {
    int n = 6 + below(5);
    return "person p 0 sets if " + "(".repeat(n) + "1" + ")".repeat(Math.max(0, n - (chance(20) ? 1 : 0))) + ";";
  }

  /** Watches that go by the middle of the last ones swing wider and wider, up to the limit of what can be off. */
  private String wild() {
    StringBuilder s = new StringBuilder();
    s.append("clock c ").append(below(900)).append(" gains ").append(below(601)).append(";clock d -").append(below(900)).append(";");
    s.append("person p ").append(below(900)).append(" middle ").append(3 + below(3)).append(chance(50) ? " gains -600" : " gains 600").append(";");
    s.append("person q 5 ").append(one(List.of("part 59 60", "half", "takes", "part 1 60", "middle 5"))).append(chance(50) ? " rough 60" : "");
    if (chance(50)) s.append(" if ").append(one(List.of("ahead*ahead<9", "ahead*ahead*ahead<9", "ahead*ahead>99999*99999", "not ahead*99999/ahead=0", "ahead-last")));
    s.append(";");
    int q = below(3);
    for (int i = 0; i < 12; i++) s.append("round ").append(i < q ? "q" : "p").append(chance(80) ? " c " : " d ").append(below(168)).append(";");
    return s.toString();
  }

  /** Behind 1900 hours, passings along this way drive the watch p to the limit. */
  private String driven() {
    int gain = 5 * below(3) - 5;
    return "clock a 36000 gains 600;clock b -36000 gains -600;clock c 7;person p " + -1899 * gain + " middle 5 gains " + gain
        + ";person q 5 " + one(List.of("sets", "half", "takes if ahead*ahead<99999", "part 7 9")) + ";round q c 60;";
  }

  private void drive() {
    for (int hours : new int[] {500, 500, 500, 400}) hours(hours);
    String way = chance(50) ? PromisesTest.UP : PromisesTest.DOWN;
    for (int i = 0; i < way.length(); i++) pass(0, way.charAt(i) - 'a');
    hours(below(90));
  }

  private String text() {
    if (chance(4)) return manyKnots();
    if (chance(3)) return manyOpen();
    if (swings = chance(8)) return wild();
    List<String> t = tokens();
    if (chance(15)) spoil(t);
    String s = joined(t);
    for (int i = 0; i < 20 && s.length() > 700 && !chance(5); i++) s = joined(tokens());
    if (chance(2)) s = s.substring(0, below(s.length() + 1));
    return s;
  }

  private void feedText(String s) {
    int n = s.length();
    int fed = 0;
    StringBuilder b = new StringBuilder(s);
    while (b.length() % 20 != 0) b.append((char) (chance(50) ? 32 : below(256)));
    int[] v = new int[5];
    for (int i = 0; i < b.length(); i += 20) {
      for (int k = 0; k < 5; k++) {
        v[k] = 0;
        for (int j = 0; j < 4; j++) v[k] = v[k] << 8 | b.charAt(i + 4 * k + j);
      }
      fed = (int) feed(v[0], v[1], v[2], v[3], v[4]);
    }
    if (chance(3)) text(one(List.of(-1, 701, Integer.MIN_VALUE, Integer.MAX_VALUE, n + 1, 9999)));
    calls.add("// " + s.replace("\n", "\\n"));
    text(Math.min(n, 700));
    clocks = plain.count(0);
    people = plain.count(1);
    hour = plain.count(6);
    call("fault", 0);
    call("fault", 1);
  }

  // ---- calls

  private long feed(int a, int b, int c, int d, int e) {
    return alike("feed(" + a + ", " + b + ", " + c + ", " + d + ", " + e + ")", quick.feed(a, b, c, d, e), plain.feed(a, b, c, d, e));
  }

  private void hours(int n) {
    alike("hours(" + n + ")", quick.hours(n), plain.hours(n));
    hour = plain.count(6);
  }

  private void pass(int person, int clock) {
    alike("pass(" + person + ", " + clock + ")", quick.pass(person, clock), plain.pass(person, clock));
  }

  private void text(int n) { alike("text(" + n + ")", quick.text(n), plain.text(n)); }

  private long alike(String call, long got, long due) {
    calls.add(call + " = " + got);
    if (got != due) {
      wrong++;
      System.out.println("seed " + seed + ": " + call + " answered " + got + ", by the plain one " + due);
      for (String c : calls) System.out.println("    " + c);
      throw new IllegalStateException("not alike");
    }
    return got;
  }

  private int edge(int i) {
    return chance(3) ? one(List.of(-1, 5, 99, Integer.MIN_VALUE, Integer.MAX_VALUE, -99)) : i;
  }

  private int person() { return edge(chance(3) ? people : people == 0 ? 0 : below(people)); }
  private int clock() { return edge(chance(3) ? clocks : clocks == 0 ? 0 : below(clocks)); }
  private int thing() { return edge(chance(3) ? clocks + people : clocks + people == 0 ? 0 : below(clocks + people)); }
  private int upTo(int n) { return edge(below(n + 2)); }
  private int anHour() { return edge(chance(10) ? hour : hour == 0 ? 0 : below(hour)); }
  private int d() { return chance(3) ? one(List.of(-1, 100000, 100001)) : chance(50) ? below(2000) : below(100001); }

  private static final String[] NAMES = {"fault", "named", "look", "clock", "round", "hours", "off", "now", "was", "spread", "pass",
    "row", "rule", "moved", "ends", "reading", "known", "judged", "wrong", "way", "tried", "other", "agree", "often", "fewest",
    "purpose", "waits", "keep", "back", "count"};

  private void run() {
    try {
      if (chance(15)) for (int i = 0; i < 20; i++) call(NAMES[below(NAMES.length)], -1);
      for (int texts = 1 + below(3); texts > 0; texts--) {
        boolean limit = below(200) == 0;
        feedText(limit ? driven() : text());
        if (limit) drive();
        boolean far = !limit && chance(swings ? 60 : 6);
        for (int i = far ? 4 : chance(70) ? 1 : 0; i > 0; i--) call("hours", far ? 500 : -1);
        for (int i = 60; i > 0; i--) call(NAMES[below(NAMES.length)], far ? 500 : -1);
      }
    } catch (IllegalStateException x) {
      if (!"not alike".equals(x.getMessage())) throw x;
    }
  }

  private int letters() {
    String s = one(chance(50) ? CLOCK_NAMES : PERSON_NAMES);
    int v = 0;
    for (int i = 0; i < 6; i++) v = v * 32 + (i < s.length() ? s.charAt(i) - 96 : 0);
    return chance(5) ? v | 1 << 31 : v;
  }

  private long passings() {
    long v = 0;
    for (int i = 0; i < 8; i++) {
      long b = (people == 0 ? 0 : below(people)) | (clocks == 0 ? 0 : below(clocks)) << 4;
      if (chance(1)) b = below(256);
      v = v << 8 | b;
    }
    return v;
  }

  private void call(String name, int more) {
    int a;
    int b;
    int c;
    int e;
    switch (name) {
      case "fault": a = more >= 0 && more < 2 ? more : upTo(2); alike("fault(" + a + ")", quick.fault(a), plain.fault(a)); break;
      case "named": a = upTo(1); b = letters(); alike("named(" + a + ", " + b + ")", quick.named(a, b), plain.named(a, b)); break;
      case "look": look(person(), upTo(6)); break;
      case "clock": a = clock(); b = upTo(2); alike("clock(" + a + ", " + b + ")", quick.clock(a, b), plain.clock(a, b)); break;
      case "round": a = upTo(12); b = upTo(2); alike("round(" + a + ", " + b + ")", quick.round(a, b), plain.round(a, b)); break;
      case "hours":
        a = edge(more > 400 ? 200 + below(310) : chance(30) ? below(200) : below(40));
        hours(a);
        break;
      case "off": a = thing(); alike("off(" + a + ")", quick.off(a), plain.off(a)); break;
      case "now": a = person(); b = upTo(2); alike("now(" + a + ", " + b + ")", quick.now(a, b), plain.now(a, b)); break;
      case "was": a = thing(); b = anHour(); alike("was(" + a + ", " + b + ")", quick.was(a, b), plain.was(a, b)); break;
      case "spread": a = anHour(); alike("spread(" + a + ")", quick.spread(a), plain.spread(a)); break;
      case "pass":
        a = person();
        b = clock();
        for (int i = chance(10) ? 15 : 1; i > 0; i--) pass(a, b);
        break;
      case "row":
        a = edge(below(14));
        long low = passings();
        long high = passings();
        b = thing();
        alike("row(" + a + ", " + low + "L, " + high + "L, " + b + ")", quick.row(a, low, high, b), plain.row(a, low, high, b));
        break;
      case "rule": rule(); break;
      case "moved":
        a = thing();
        b = thing();
        c = chance(4) ? one(List.of(36000, -36000, 36001, -36001)) : below(2001) - 1000;
        alike("moved(" + a + ", " + b + ", " + c + ")", quick.moved(a, b, c), plain.moved(a, b, c));
        break;
      case "ends": a = thing(); b = upTo(1); if (cheap()) alike("ends(" + a + ", " + b + ")", quick.ends(a, b), plain.ends(a, b)); break;
      case "reading": reading(); break;
      case "known": a = chance(30) ? -1 : edge(below(5)); alike("known(" + a + ")", quick.known(a) ? 1 : 0, plain.known(a) ? 1 : 0); break;
      case "judged": alike("judged()", quick.judged(), plain.judged()); break;
      case "wrong": a = thing(); alike("wrong(" + a + ")", quick.wrong(a), plain.wrong(a)); break;
      case "way": a = thing(); b = edge(chance(50) ? below(4) : below(125)); alike("way(" + a + ", " + b + ")", quick.way(a, b), plain.way(a, b)); break;
      case "tried": a = upTo(8); b = a >= 4 && a <= 6 && chance(80) ? 0 : person(); alike("tried(" + a + ", " + b + ")", quick.tried(a, b), plain.tried(a, b)); break;
      case "other":
        a = upTo(8);
        b = a >= 4 && a <= 6 && chance(80) ? 0 : person();
        c = thing();
        alike("other(" + a + ", " + b + ", " + c + ")", quick.other(a, b, c), plain.other(a, b, c));
        break;
      case "agree": a = d(); alike("agree(" + a + ")", quick.agree(a), plain.agree(a)); break;
      case "often": a = clock(); b = d(); alike("often(" + a + ", " + b + ")", quick.often(a, b), plain.often(a, b)); break;
      case "fewest": a = d(); b = upTo(1); alike("fewest(" + a + ", " + b + ")", quick.fewest(a, b), plain.fewest(a, b)); break;
      case "purpose":
        if (hour > 600 && !chance(5)) break;
        a = person();
        b = clock();
        c = thing();
        e = upTo(1);
        boolean most = chance(50);
        alike("purpose(" + a + ", " + b + ", " + c + ", " + most + ", " + e + ")", quick.purpose(a, b, c, most, e), plain.purpose(a, b, c, most, e));
        break;
      case "waits": a = person(); b = person(); alike("waits(" + a + ", " + b + ")", quick.waits(a, b), plain.waits(a, b)); break;
      case "keep": if (chance(60)) alike("keep()", quick.keep(), plain.keep()); break;
      case "back": if (chance(60)) alike("back()", quick.back(), plain.back()); hour = plain.count(6); break;
      case "count": a = upTo(8); alike("count(" + a + ")", quick.count(a), plain.count(a)); break;
      default: throw new IllegalStateException(name);
    }
  }

  /** The plain one takes long for many rough things and hours. */
  private boolean cheap() { return hour < 300 || chance(15); }

  private void look(int a, int b) {
    long got;
    long due;
    try { got = quick.look(a, b); } catch (IndexOutOfBoundsException x) { got = Long.MAX_VALUE; } catch (NoSuchElementException x) { got = Long.MAX_VALUE - 1; }
    try { due = plain.look(a, b); } catch (IndexOutOfBoundsException x) { due = Long.MAX_VALUE; } catch (NoSuchElementException x) { due = Long.MAX_VALUE - 1; }
    alike("look(" + a + ", " + b + ")", got, due);
  }

  private int inRule(int most) { return chance(3) ? one(List.of(most, most + 1, -most, -most - 1)) : chance(50) ? below(200) - 100 : below(2 * most) - most; }

  private void rule() {
    int a = person();
    int b = inRule(99999);
    int c = inRule(99999);
    int d = chance(90) ? below(100000) : inRule(99999);
    int e = chance(90) ? below(2000) : one(List.of(-1, 1999, 2000));
    alike("rule(" + a + ", " + b + ", " + c + ", " + d + ", " + e + ")", quick.rule(a, b, c, d, e), plain.rule(a, b, c, d, e));
  }

  private void reading() {
    for (int many = chance(5) ? 32 : 1; many > 0; many--) {
      int t = thing();
      int h = chance(70) ? anHour() : chance(10) ? one(List.of(1999, 2000, -1)) : below(hour + 30);
      int now = plain.was(t, h);
      if (now == Integer.MIN_VALUE) now = 0;
      int low = chance(90) ? now - below(4000) : below(2000) - 1000;
      int high = chance(90) ? now + below(4000) : low + below(100) - 5;
      if (chance(3)) low = one(List.of(-1000000, -1000001));
      if (chance(3)) high = one(List.of(1000000, 1000001));
      alike("reading(" + t + ", " + h + ", " + low + ", " + high + ")", quick.reading(t, h, low, high), plain.reading(t, h, low, high));
    }
  }
}
