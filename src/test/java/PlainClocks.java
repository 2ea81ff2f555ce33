import java.math.BigInteger;
import java.util.ArrayList;
import java.util.Collections;
import java.util.List;
import java.util.NoSuchElementException;

/**
 * The document once more, as plainly as can be, to compare the class with: every answer is worked out anew,
 * hour by hour, from the text, the passings by hand and the readings; nothing is kept but these.
 */
final class PlainClocks {
  private static final int NO = Integer.MIN_VALUE;
  private static final String LANGUAGE =
      " clock person round gun gains rough if sets takes half part middle or and not ahead last passed hour day ";

  // ---- what is told

  static final class Thing {
    String name;
    int first;
    int gain;
    int rough;
    int custom = -1; // a clock has none
    int n;
    int m;
    Node rule;
    boolean passes = true;

    Thing copy() {
      Thing t = new Thing();
      t.name = name; t.first = first; t.gain = gain; t.rough = rough;
      t.custom = custom; t.n = n; t.m = m; t.rule = rule; t.passes = passes;
      return t;
    }
  }

  static final class World {
    List<Thing> clocks = new ArrayList<>();
    List<Thing> people = new ArrayList<>();
    List<int[]> rounds = new ArrayList<>(); // person, clock, hour
    List<int[]> guns = new ArrayList<>(); // clock, hour
    int often = 0; // in place of all guns: a gun for oftenClock in each hour that it divides
    int oftenClock = 0;
    int lines;
    int knots;

    World copy() {
      World w = new World();
      for (Thing t : clocks) w.clocks.add(t.copy());
      for (Thing t : people) w.people.add(t.copy());
      w.rounds.addAll(rounds);
      w.guns.addAll(guns);
      w.lines = lines; w.knots = knots; w.often = often; w.oftenClock = oftenClock;
      return w;
    }

    int things() { return clocks.size() + people.size(); }

    Thing thing(int i) { return i < clocks.size() ? clocks.get(i) : people.get(i - clocks.size()); }
  }

  // ---- rules

  static final class Node {
    String op;
    Node a;
    Node b;
    Node(String op, Node a, Node b) { this.op = op; this.a = a; this.b = b; }
  }

  private static final BigInteger MOST = BigInteger.TEN.pow(12);

  /** null is an ERROR. */
  private static BigInteger value(Node x, long ahead, long last, long passed, int hour) {
    BigInteger v = raw(x, ahead, last, passed, hour);
    return v == null || v.abs().compareTo(MOST) > 0 ? null : v;
  }

  private static BigInteger truth(boolean b) { return b ? BigInteger.ONE : BigInteger.ZERO; }

  private static BigInteger raw(Node x, long ahead, long last, long passed, int hour) {
    switch (x.op) {
      case "ahead": return BigInteger.valueOf(ahead);
      case "last": return BigInteger.valueOf(last);
      case "passed": return BigInteger.valueOf(passed);
      case "hour": return BigInteger.valueOf(hour % 24);
      case "day": return BigInteger.valueOf((hour / 24) % 7);
      default:
    }
    if (Character.isDigit(x.op.charAt(0))) return new BigInteger(x.op);
    BigInteger a = value(x.a, ahead, last, passed, hour);
    if (x.op.equals("not")) return a == null ? null : truth(a.signum() == 0);
    BigInteger b = value(x.b, ahead, last, passed, hour);
    if (a == null || b == null) return null;
    switch (x.op) {
      case "or": return truth(a.signum() != 0 || b.signum() != 0);
      case "and": return truth(a.signum() != 0 && b.signum() != 0);
      case "<": return truth(a.compareTo(b) < 0);
      case "<=": return truth(a.compareTo(b) <= 0);
      case "=": return truth(a.compareTo(b) == 0);
      case "<>": return truth(a.compareTo(b) != 0);
      case ">=": return truth(a.compareTo(b) >= 0);
      case ">": return truth(a.compareTo(b) > 0);
      case "+": return a.add(b);
      case "-": return a.subtract(b);
      case "*": return a.multiply(b);
      case "/": return b.signum() == 0 ? null : a.divide(b);
      default: throw new IllegalStateException(x.op);
    }
  }

  // ---- texts

  static final class Wrong extends RuntimeException {
    final int fault;
    final int place;
    Wrong(int fault, int place) { this.fault = fault; this.place = place; }
  }

  static final class Parser {
    final String s;
    int at = 0;
    String token = "";
    int start;
    int open = 0;
    final World w = new World();

    Parser(String s) { this.s = s; next(); }

    private static boolean small(char c) { return c >= 'a' && c <= 'z'; }
    private static boolean digit(char c) { return c >= '0' && c <= '9'; }

    /** The end is the empty token; one that is none is "?". */
    private void next() {
      while (at < s.length() && (s.charAt(at) == ' ' || s.charAt(at) == '\n')) at++;
      start = at;
      if (at == s.length()) { token = ""; return; }
      char c = s.charAt(at);
      int e = at + 1;
      if (small(c)) {
        while (e < s.length() && small(s.charAt(e))) e++;
      } else if (digit(c)) {
        while (e < s.length() && digit(s.charAt(e))) e++;
      } else {
        if (at + 2 <= s.length()) {
          String two = s.substring(at, at + 2 > s.length() ? s.length() : at + 2);
          if (two.equals("<=") || two.equals(">=") || two.equals("<>")) e = at + 2;
        }
        if (";()+-*/<>=".indexOf(c) < 0) { at = e; token = "?"; return; }
      }
      token = s.substring(at, e);
      at = e;
      if (small(c) && token.length() > 6) token = "?";
    }

    private Wrong wrong(int fault) { return new Wrong(fault, start); }

    private void must(String t) {
      if (!token.equals(t)) throw wrong(1);
      next();
    }

    private boolean isName() {
      return !token.isEmpty() && small(token.charAt(0)) && !LANGUAGE.contains(" " + token + " ");
    }

    private boolean isNumber() { return !token.isEmpty() && digit(token.charAt(0)); }

    private int number(int least, int most) {
      if (!isNumber()) throw wrong(1);
      BigInteger v = new BigInteger(token);
      if (v.compareTo(BigInteger.valueOf(least)) < 0 || v.compareTo(BigInteger.valueOf(most)) > 0) throw wrong(2);
      next();
      return v.intValue();
    }

    private int signed(int most) {
      if (token.equals("-")) { next(); return -number(0, most); }
      return number(0, most);
    }

    private String fresh(List<Thing> kind) {
      if (!isName()) throw wrong(1);
      for (Thing t : kind) if (t.name.equals(token)) throw wrong(3);
      String name = token;
      next();
      return name;
    }

    private int known(List<Thing> kind) {
      if (!isName()) throw wrong(1);
      for (int i = 0; i < kind.size(); i++) if (kind.get(i).name.equals(token)) { next(); return i; }
      throw wrong(4);
    }

    World all() {
      while (!token.isEmpty()) {
        line();
        must(";");
        w.lines++;
      }
      return w;
    }

    private void line() {
      switch (token) {
        case "clock": thing(w.clocks, false); break;
        case "person": thing(w.people, true); break;
        case "round":
          if (w.rounds.size() == 12) throw wrong(2);
          next();
          int p = known(w.people);
          int c = known(w.clocks);
          w.rounds.add(new int[] {p, c, number(0, 167)});
          break;
        case "gun":
          if (w.guns.size() == 3) throw wrong(2);
          next();
          int g = known(w.clocks);
          w.guns.add(new int[] {g, number(0, 167)});
          break;
        default: throw wrong(1);
      }
    }

    private void thing(List<Thing> kind, boolean person) {
      if (kind.size() == 5) throw wrong(2);
      next();
      Thing t = new Thing();
      t.name = fresh(kind);
      t.first = signed(36000);
      if (person) custom(t);
      boolean gains = false;
      boolean rough = false;
      while (true) {
        if (token.equals("gains")) {
          if (gains) throw wrong(3);
          gains = true;
          next();
          t.gain = signed(600);
        } else if (token.equals("rough")) {
          if (rough) throw wrong(3);
          rough = true;
          next();
          t.rough = number(0, 36000);
        } else if (person && token.equals("if")) {
          if (t.rule != null) throw wrong(3);
          next();
          t.rule = e();
        } else {
          break;
        }
      }
      kind.add(t);
    }

    private void custom(Thing t) {
      switch (token) {
        case "sets": t.custom = 0; next(); break;
        case "takes": t.custom = 1; next(); break;
        case "half": t.custom = 2; next(); break;
        case "part": t.custom = 3; next(); t.n = number(1, 60); t.m = number(t.n, 60); break;
        case "middle": t.custom = 4; next(); t.n = number(1, 5); break;
        default: throw wrong(1);
      }
    }

    private String knot() {
      if (w.knots == 64) throw wrong(2);
      w.knots++;
      String t = token;
      next();
      return t;
    }

    private Node e() {
      Node x = a();
      while (token.equals("or")) { String o = knot(); x = new Node(o, x, a()); }
      return x;
    }

    private Node a() {
      Node x = b();
      while (token.equals("and")) { String o = knot(); x = new Node(o, x, b()); }
      return x;
    }

    private Node b() {
      if (token.equals("not")) { String o = knot(); return new Node(o, b(), null); }
      return c();
    }

    private Node c() {
      Node x = s();
      if (List.of("<", "<=", "=", "<>", ">=", ">").contains(token)) { String o = knot(); x = new Node(o, x, s()); }
      return x;
    }

    private Node s() {
      Node x = t();
      while (token.equals("+") || token.equals("-")) { String o = knot(); x = new Node(o, x, t()); }
      return x;
    }

    private Node t() {
      Node x = p();
      while (token.equals("*") || token.equals("/")) { String o = knot(); x = new Node(o, x, p()); }
      return x;
    }

    private Node p() {
      if (isNumber()) {
        if (new BigInteger(token).compareTo(BigInteger.valueOf(99999)) > 0) throw wrong(2);
        return new Node(knot(), null, null);
      }
      if (List.of("ahead", "last", "passed", "hour", "day").contains(token)) return new Node(knot(), null, null);
      if (!token.equals("(")) throw wrong(1);
      if (open == 8) throw wrong(2);
      open++;
      next();
      Node x = e();
      must(")");
      open--;
      return x;
    }
  }

  // ---- what goes by

  static final class Sim {
    final World w;
    final int[] off;
    final int[] last;
    final int[] passed;
    final List<List<Integer>> kept = new ArrayList<>();
    int passings = 0;

    Sim(World w) {
      this.w = w;
      off = new int[w.things()];
      for (int i = 0; i < off.length; i++) off[i] = w.thing(i).first;
      last = new int[w.people.size()];
      passed = new int[w.people.size()];
      for (int i = 0; i < passed.length; i++) kept.add(new ArrayList<>());
    }

    private void put(int thing, long v) {
      off[thing] = (int) Math.max(-1000000000L, Math.min(1000000000L, v));
    }

    void hour(int h) {
      if (h > 0) for (int i = 0; i < off.length; i++) put(i, (long) off[i] + w.thing(i).gain);
      if (w.often > 0) {
        if (h % w.often == 0) put(w.oftenClock, 0);
      } else {
        for (int[] g : w.guns) if (h % 168 == g[1]) put(g[0], 0);
      }
      for (int[] r : w.rounds) if (h % 168 == r[2] && w.people.get(r[0]).passes) pass(r[0], r[1], h);
    }

    void pass(int person, int clock, int h) {
      int watch = w.clocks.size() + person;
      Thing p = w.people.get(person);
      long ahead = (long) off[clock] - off[watch];
      boolean does = true;
      if (p.rule != null) {
        BigInteger v = value(p.rule, ahead, last[person], passed[person], h);
        does = v != null && v.signum() != 0;
      }
      if (does) {
        switch (p.custom) {
          case 0: put(clock, off[watch]); break;
          case 1: put(watch, off[clock]); break;
          case 2:
            long mid = Math.floorDiv((long) off[clock] + off[watch], 2L);
            put(clock, mid);
            put(watch, mid);
            break;
          case 3: put(clock, off[clock] - ahead * p.n / p.m); break;
          default:
            List<Integer> k = kept.get(person);
            k.add((int) ahead);
            if (k.size() > p.n) k.remove(0);
            List<Integer> sorted = new ArrayList<>(k);
            Collections.sort(sorted);
            put(watch, (long) off[watch] + sorted.get((sorted.size() - 1) / 2));
        }
      }
      last[person] = (int) ahead;
      passed[person]++;
      passings++;
    }

    int spread() {
      if (off.length == 0) return 0;
      int most = off[0];
      int least = off[0];
      for (int v : off) { most = Math.max(most, v); least = Math.min(least, v); }
      return most - least;
    }
  }

  private StringBuilder tape = new StringBuilder();
  private World world = new World();
  private int fault = 0;
  private int place = -1;
  private int hour = 0;
  private List<int[]> byHand = new ArrayList<>(); // hour, person, clock
  private List<int[]> readings = new ArrayList<>(); // thing, hour, low, high
  private int known = -1;
  private int imageHour = -1;
  private List<int[]> imageHand = null;

  /** As it went by, passings by hand too, up to the end of an hour (-1: none went by). */
  private Sim real(int end) {
    Sim s = new Sim(world);
    for (int h = 0; h <= end; h++) {
      s.hour(h);
      for (int[] b : byHand) if (b[0] == h) s.pass(b[1], b[2], h);
    }
    return s;
  }

  private static Sim run(World w, int hours) {
    Sim s = new Sim(w);
    for (int h = 0; h < hours; h++) s.hour(h);
    return s;
  }

  private boolean person(int p) { return p >= 0 && p < world.people.size(); }
  private boolean isClock(int c) { return c >= 0 && c < world.clocks.size(); }
  private boolean thing(int t) { return t >= 0 && t < world.things(); }

  int feed(int a, int b, int c, int d, int e) {
    if (tape.length() + 20 > 700) return -1;
    for (int v : new int[] {a, b, c, d, e}) for (int i = 3; i >= 0; i--) tape.append((char) (v >>> (8 * i) & 255));
    return tape.length();
  }

  int text(int n) {
    if (n < 0 || n > tape.length()) return -2;
    String s = tape.substring(0, n);
    tape = new StringBuilder();
    World w;
    try {
      w = new Parser(s).all();
    } catch (Wrong x) {
      fault = x.fault;
      place = x.place;
      return -1;
    }
    fault = 0;
    place = -1;
    world = w;
    hour = 0;
    byHand = new ArrayList<>();
    readings = new ArrayList<>();
    known = -1;
    imageHour = -1;
    return w.lines;
  }

  int fault(int what) { return what == 0 ? fault : what == 1 ? place : -1; }

  int named(int what, int letters) {
    if (what != 0 && what != 1) return -1;
    List<Thing> l = what == 0 ? world.clocks : world.people;
    for (int i = 0; i < l.size(); i++) {
      int code = 0;
      for (int k = 0; k < 6; k++) code = code * 32 + (k < l.get(i).name.length() ? l.get(i).name.charAt(k) - 96 : 0);
      if (code == letters) return i;
    }
    return -1;
  }

  int look(int p, int what) {
    if (!person(p)) throw new IndexOutOfBoundsException();
    Thing t = world.people.get(p);
    if (what < 0 || what > 6) throw new NoSuchElementException();
    return new int[] {t.first, t.gain, t.rough, t.custom, t.n, t.m, t.rule == null ? 0 : 1}[what];
  }

  int clock(int c, int what) {
    if (!isClock(c) || what < 0 || what > 2) return NO;
    Thing t = world.clocks.get(c);
    return new int[] {t.first, t.gain, t.rough}[what];
  }

  int round(int r, int what) {
    return r < 0 || r >= world.rounds.size() || what < 0 || what > 2 ? -1 : world.rounds.get(r)[what];
  }

  int hours(int n) {
    if (n < 0 || n > 500 || hour + n > 2000) return -1;
    hour += n;
    return hour;
  }

  int off(int t) { return thing(t) ? real(hour - 1).off[t] : NO; }

  int now(int p, int what) {
    if (!person(p) || what < 0 || what > 2) return NO;
    Sim s = real(hour - 1);
    return what == 0 ? s.last[p] : what == 1 ? s.passed[p] : s.kept.get(p).size();
  }

  int was(int t, int h) { return thing(t) && h >= 0 && h < hour ? real(h).off[t] : NO; }

  int spread(int h) { return world.things() > 0 && h >= 0 && h < hour ? real(h).spread() : -1; }

  int pass(int p, int c) {
    if (!person(p) || !isClock(c) || hour == 0) return NO;
    byHand.add(new int[] {hour - 1, p, c});
    return real(hour - 1).off[c];
  }

  int row(int n, long low, long high, int t) {
    if (n < 0 || n > 12 || !thing(t) || hour == 0) return NO;
    byte[] b = new byte[16];
    for (int i = 0; i < 8; i++) { b[i] = (byte) (low >> 8 * i); b[8 + i] = (byte) (high >> 8 * i); }
    Sim s = real(hour - 1);
    for (int i = 0; i < n; i++) {
      int p = b[i] & 15;
      int c = b[i] >> 4 & 15;
      if (!person(p) || !isClock(c)) return NO;
      s.pass(p, c, hour - 1);
    }
    return s.off[t];
  }

  long rule(int p, int ahead, int last, int passed, int h) {
    if (!person(p) || world.people.get(p).rule == null || Math.abs((long) ahead) > 99999 || Math.abs((long) last) > 99999
        || passed < 0 || passed > 99999 || h < 0 || h > 1999) return Long.MIN_VALUE;
    BigInteger v = value(world.people.get(p).rule, ahead, last, passed, h);
    return v == null ? Long.MIN_VALUE : v.longValue();
  }

  int moved(int t, int o, int v) {
    if (!thing(t) || !thing(o) || v < -36000 || v > 36000) return NO;
    World w = world.copy();
    w.thing(o).first += v;
    return run(w, hour).off[t] - run(world, hour).off[t];
  }

  int ends(int t, int what) {
    if (!thing(t) || what < 0 || what > 1) return NO;
    return ends(t, what, world.copy(), 0);
  }

  private int ends(int t, int what, World w, int from) {
    if (from == w.things()) return run(w, hour).off[t];
    Thing x = w.thing(from);
    if (x.rough == 0) return ends(t, what, w, from + 1);
    int first = x.first;
    x.first = first - x.rough;
    int one = ends(t, what, w, from + 1);
    x.first = first + x.rough;
    int two = ends(t, what, w, from + 1);
    x.first = first;
    return what == 0 ? Math.min(one, two) : Math.max(one, two);
  }

  int reading(int t, int h, int low, int high) {
    if (!thing(t) || h < 0 || h > 1999 || low < -1000000 || high < low || high > 1000000 || readings.size() == 30) return -1;
    readings.add(new int[] {t, h, low, high});
    return readings.size() - 1;
  }

  boolean known(int n) {
    if (n < -1 || n > readings.size()) return false;
    known = n;
    return true;
  }

  private int knownCount() { return known < 0 ? readings.size() : known; }

  private int firstWrong(World w) {
    int end = -1;
    for (int i = 0; i < knownCount(); i++) end = Math.max(end, readings.get(i)[1]);
    Sim s = new Sim(w);
    int found = -1;
    for (int h = 0; h <= end; h++) {
      s.hour(h);
      for (int i = 0; i < knownCount(); i++) {
        int[] r = readings.get(i);
        boolean so = s.off[r[0]] >= r[2] && s.off[r[0]] <= r[3];
        if (r[1] == h && !so && (found < 0 || i < found)) found = i;
      }
    }
    return found;
  }

  int judged() { return firstWrong(world); }

  private List<Integer> ways(int t) {
    List<Integer> l = new ArrayList<>();
    for (int k = -60; k <= 60; k++) {
      World w = world.copy();
      w.thing(t).first += 60 * k;
      if (firstWrong(w) < 0) l.add(60 * k);
    }
    return l;
  }

  int wrong(int t) { return thing(t) ? ways(t).size() : -1; }

  int way(int t, int k) {
    if (!thing(t) || k < 0 || k > 120) return NO;
    List<Integer> l = ways(t);
    return k < l.size() ? l.get(k) : NO;
  }

  private static void right(Thing p) { p.first = 0; p.gain = 0; p.custom = 0; p.rule = null; }

  private World changed(int what, int i) {
    if (what < 0 || what > 8) return null;
    if (what >= 4 && what <= 6 && i != 0) return null;
    if ((what <= 3 || what == 7) && !person(i)) return null;
    if (what == 8 && !isClock(i)) return null;
    World w = world.copy();
    if (what == 0) w.people.get(i).passes = false;
    if (what >= 1 && what <= 3) w.people.get(i).custom = what - 1;
    if (what == 4) for (Thing p : w.people) p.rule = null;
    if (what == 5) w.guns.clear();
    if (what == 6) for (int t = 0; t < w.things(); t++) w.thing(t).gain = 0;
    if (what == 7) right(w.people.get(i));
    if (what == 8) w.guns.add(new int[] {i, 12});
    return w;
  }

  int tried(int what, int i) {
    World w = changed(what, i);
    return w == null ? -1 : run(w, hour).spread();
  }

  int other(int what, int i, int t) {
    World w = changed(what, i);
    return w == null || !thing(t) ? NO : run(w, hour).off[t];
  }

  int agree(int d) {
    if (d < 0 || d > 100000 || world.things() == 0 || hour == 0) return -1;
    int from = -1;
    Sim s = new Sim(world);
    for (int h = 0; h < hour; h++) {
      s.hour(h);
      for (int[] b : byHand) if (b[0] == h) s.pass(b[1], b[2], h);
      if (s.spread() > d) from = -1;
      else if (from < 0) from = h;
    }
    return from;
  }

  int often(int c, int d) {
    if (!isClock(c) || d < 0 || d > 100000) return -1;
    int found = 0;
    for (int k = 1; k <= 168; k++) {
      World w = world.copy();
      w.often = k;
      w.oftenClock = c;
      Sim s = new Sim(w);
      boolean good = true;
      for (int h = 0; h < hour && good; h++) {
        s.hour(h);
        for (int v : s.off) good &= Math.abs(v) <= d;
      }
      if (good) found = k;
    }
    return found;
  }

  int fewest(int d, int what) {
    if (d < 0 || d > 100000 || what < 0 || what > 1) return -1;
    int best = -1;
    for (int bits = 0; bits < 1 << world.people.size(); bits++) {
      World w = world.copy();
      for (int p = 0; p < w.people.size(); p++) if ((bits & 1 << p) != 0) right(w.people.get(p));
      if (run(w, hour).spread() <= d && (best < 0 || Integer.bitCount(bits) < Integer.bitCount(best))) best = bits;
    }
    return best < 0 ? -2 : what == 0 ? Integer.bitCount(best) : best;
  }

  int purpose(int p, int c, int t, boolean most, int what) {
    if (!person(p) || !isClock(c) || !thing(t) || what < 0 || what > 1 || hour == 0) return NO;
    int at = -1;
    int best = 0;
    for (int x = 0; x < hour; x++) {
      Sim s = new Sim(world);
      for (int h = 0; h < hour; h++) {
        s.hour(h);
        if (h == x) s.pass(p, c, h);
      }
      if (at < 0 || (most ? s.off[t] > best : s.off[t] < best)) { at = x; best = s.off[t]; }
    }
    return what == 0 ? at : best;
  }

  int waits(int a, int b) {
    if (!person(a) || !person(b)) return NO;
    Sim s = real(hour - 1);
    return s.off[world.clocks.size() + a] - s.off[world.clocks.size() + b];
  }

  int keep() {
    imageHour = hour;
    imageHand = new ArrayList<>(byHand);
    return hour;
  }

  int back() {
    if (imageHour < 0) return -1;
    hour = imageHour;
    byHand = new ArrayList<>(imageHand);
    return hour;
  }

  int count(int what) {
    switch (what) {
      case 0: return world.clocks.size();
      case 1: return world.people.size();
      case 2: return world.rounds.size();
      case 3: return world.guns.size();
      case 4: return readings.size();
      case 5: return knownCount();
      case 6: return hour;
      case 7: return world.knots;
      case 8: return real(hour - 1).passings;
      default: return -1;
    }
  }
}
