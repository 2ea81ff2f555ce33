import java.util.ArrayList;
import java.util.List;
import java.util.Random;

/**
 * What is tried otherwise in one text is what simply goes by in another one: each answer of 'Terms' ==== 3. and 4. is asked of
 * a second object that was told the changed text, or whose passings were made by hand. No second writing of the document here:
 * the class is held against itself. Arguments: the first seed and how many (0 and 250 without).
 */
public final class OtherwiseTest {
  private static int wrong = 0;

  /** A clock (without a custom) or a person. */
  private static final class Thing {
    String name;
    int first;
    int gain;
    int rough;
    String custom = "";
    String rule = "";

    Thing copy() {
      Thing t = new Thing();
      t.name = name;
      t.first = first;
      t.gain = gain;
      t.rough = rough;
      t.custom = custom;
      t.rule = rule;
      return t;
    }

    String line() {
      return (custom.isEmpty() ? "clock " : "person ") + name + " " + first + (custom.isEmpty() ? "" : " " + custom)
          + (gain == 0 ? "" : " gains " + gain) + (rough == 0 ? "" : " rough " + rough) + (rule.isEmpty() ? "" : " if " + rule) + ";";
    }

    void right() {
      first = 0;
      gain = 0;
      custom = "sets";
      rule = "";
    }
  }

  /** What a text tells, to be changed and told again. */
  private static final class Village {
    final List<Thing> clocks = new ArrayList<>();
    final List<Thing> people = new ArrayList<>();
    final List<int[]> rounds = new ArrayList<>(); // person, clock, hour
    final List<int[]> guns = new ArrayList<>(); // clock, hour

    Village copy() {
      Village v = new Village();
      for (Thing t : clocks) v.clocks.add(t.copy());
      for (Thing t : people) v.people.add(t.copy());
      v.rounds.addAll(rounds);
      v.guns.addAll(guns);
      return v;
    }

    int things() { return clocks.size() + people.size(); }

    Thing thing(int i) { return i < clocks.size() ? clocks.get(i) : people.get(i - clocks.size()); }

    String text() {
      StringBuilder s = new StringBuilder();
      for (Thing t : clocks) s.append(t.line());
      for (Thing t : people) s.append(t.line());
      for (int[] r : rounds) s.append("round ").append(people.get(r[0]).name).append(' ').append(clocks.get(r[1]).name).append(' ').append(r[2]).append(';');
      for (int[] g : guns) s.append("gun ").append(clocks.get(g[0]).name).append(' ').append(g[1]).append(';');
      return s.toString();
    }
  }

  private final Random random;
  private final long seed;
  private final Village village;
  private int hours;
  private PassedClocks asked;

  private OtherwiseTest(long seed) {
    this.seed = seed;
    this.random = new Random(seed * 31337 + 5);
    this.village = drawn();
  }

  public static void main(String[] args) {
    long from = args.length > 0 ? Long.parseLong(args[0]) : 0;
    long many = args.length > 1 ? Long.parseLong(args[1]) : 250;
    for (long s = from; s < from + many && wrong < 10; s++) new OtherwiseTest(s).run();
    System.out.println(wrong == 0 ? "all is as in the other texts" : wrong + " answers are not as in the other texts");
    if (wrong != 0) System.exit(1);
  }

  private void due(String call, long got, long want) {
    if (got == want) return;
    wrong++;
    System.out.println("seed " + seed + ", hour " + hours + ": " + call + " answered " + got + ", due is " + want + " of " + village.text());
  }

  // ---- texts

  private int below(int n) { return random.nextInt(n); }

  private boolean chance(int of100) { return below(100) < of100; }

  private String one(String... of) { return of[below(of.length)]; }

  private Thing drawnThing(String name) {
    Thing t = new Thing();
    t.name = name;
    t.first = below(chance(20) ? 40001 : 1801) - (chance(50) ? 900 : 0);
    t.first = Math.min(t.first, 30000);
    t.gain = chance(50) ? below(41) - 20 : chance(5) ? 600 : 0;
    t.rough = chance(25) ? 1 + below(500) : 0;
    return t;
  }

  private Village drawn() {
    Village v = new Village();
    int clocks = 1 + below(3);
    int people = 1 + below(4);
    for (int i = 0; i < clocks; i++) v.clocks.add(drawnThing("" + (char) ('a' + i)));
    for (int i = 0; i < people; i++) {
      Thing p = drawnThing("" + (char) ('p' + i));
      int whole = 1 + below(60);
      p.custom = one("sets", "takes", "half", "part " + (1 + below(whole)) + " " + whole, "middle " + (1 + below(5)));
      if (chance(40)) {
        p.rule = one("ahead>0", "not last=ahead", "passed<3", "hour<12 and day<>2", "passed-passed/2*2", "600/ahead", "ahead*ahead<90000 or last<0",
            "(ahead+last)*passed>hour", "1/0", "day");
      }
      v.people.add(p);
    }
    int few = 1 + below(4);
    int[] usual = new int[few];
    for (int i = 0; i < few; i++) usual[i] = chance(80) ? below(30) : below(168);
    for (int i = below(9); i > 0; i--) v.rounds.add(new int[] {below(people), below(clocks), usual[below(few)]});
    for (int i = chance(50) ? 0 : 1 + below(2); i > 0; i--) v.guns.add(new int[] {below(clocks), usual[below(few)]});
    return v;
  }

  private PassedClocks told(Village v) {
    PassedClocks x = new PassedClocks();
    String s = v.text();
    int lines = Sentences.text(x, s);
    if (lines != Sentences.linesOf(s)) throw new IllegalStateException("fault " + x.fault(0) + " at " + x.fault(1) + " of " + s);
    return x;
  }

  private static void goTo(PassedClocks x, int hour) {
    while (x.count(6) < hour) x.hours(Math.min(500, hour - x.count(6)));
  }

  private PassedClocks gone(Village v) {
    PassedClocks x = told(v);
    goTo(x, hours);
    return x;
  }

  // ---- what is due

  private int apart(PassedClocks x) {
    int most = Integer.MIN_VALUE;
    int least = Integer.MAX_VALUE;
    for (int t = 0; t < village.things(); t++) {
      most = Math.max(most, x.off(t));
      least = Math.min(least, x.off(t));
    }
    return most - least;
  }

  private void run() {
    hours = chance(10) ? 0 : chance(80) ? 1 + below(60) : 1 + below(700);
    asked = gone(village);
    byHandIsLikeRounds();
    if (hours > 0 && chance(70)) handPasses();
    tries();
    moves();
    roughEnds();
    readings();
    fewest();
    agrees();
    if (hours <= 120) often();
    if (hours > 0 && hours <= 120) purposes();
    images();
  }

  /** "By HAND a PERSON PASSES a CLOCK now": so all rounds and guns can be made by hand, a gun by a right watch that sets. */
  private PassedClocks byHand(int gunClock, int gunEach, int upTo, int[] widest) {
    Village bare = village.copy();
    bare.rounds.clear();
    bare.guns.clear();
    Thing gunner = new Thing();
    gunner.name = "z";
    gunner.right();
    bare.people.add(gunner);
    PassedClocks x = told(bare);
    int last = village.people.size();
    for (int h = 0; h < upTo; h++) {
      x.hours(1);
      if (gunEach > 0 && h % gunEach == 0) x.pass(last, gunClock);
      for (int[] g : village.guns) if (gunEach == 0 && g[1] == h % 168) x.pass(last, g[0]);
      for (int[] r : village.rounds) if (r[2] == h % 168) x.pass(r[0], r[1]);
      for (int t = 0; t < bare.things(); t++) widest[0] = Math.max(widest[0], Math.abs(x.was(t, h)));
    }
    return x;
  }

  private void byHandIsLikeRounds() {
    PassedClocks x = byHand(0, 0, hours, new int[1]);
    for (int t = 0; t < village.things(); t++) due("off(" + t + ") by rounds", asked.off(t), x.off(t));
    for (int p = 0; p < village.people.size(); p++) {
      for (int what = 0; what < 3; what++) due("now(" + p + ", " + what + ") by rounds", asked.now(p, what), x.now(p, what));
    }
  }

  /** A passing by hand does its custom just if the rule, asked by the same names, isn't 0; all RUNS leave it out. */
  private void handPasses() {
    for (int i = 1 + below(4); i > 0; i--) {
      int p = below(village.people.size());
      int c = below(village.clocks.size());
      int watch = village.clocks.size() + p;
      int before = asked.off(c);
      int his = asked.off(watch);
      int ahead = before - his;
      long rule = village.people.get(p).rule.isEmpty() ? 1 : asked.rule(p, ahead, asked.now(p, 0), asked.now(p, 1), hours - 1);
      boolean does = rule != 0 && rule != Long.MIN_VALUE;
      boolean asks = Math.abs(ahead) <= 99999 && Math.abs(asked.now(p, 0)) <= 99999;
      int passed = asked.now(p, 1);
      int inRow = asked.row(1, p | c << 4, 0, watch);
      due("pass", asked.pass(p, c), asked.off(c));
      due("row of one", inRow, asked.off(watch));
      due("LAST", asked.now(p, 0), ahead);
      due("PASSED", asked.now(p, 1), passed + 1);
      if (asks) customDone(p, c, before, his, does);
    }
  }

  private void customDone(int p, int c, int before, int his, boolean does) {
    int clock = before;
    int watch = his;
    String[] custom = village.people.get(p).custom.split(" ");
    if (does) {
      switch (custom[0]) {
        case "sets": clock = his; break;
        case "takes": watch = before; break;
        case "half": clock = Math.floorDiv(before + his, 2); watch = clock; break;
        case "part": clock = before - (before - his) * Integer.parseInt(custom[1]) / Integer.parseInt(custom[2]); break;
        default: watch = asked.off(village.clocks.size() + p);
      }
    }
    due("the clock behind a passing", asked.off(c), clock);
    due("the watch behind a passing", asked.off(village.clocks.size() + p), watch);
  }

  private void tries() {
    for (int what = 0; what <= 8; what++) {
      int many = what == 8 ? village.clocks.size() : what >= 4 && what <= 6 ? 1 : village.people.size();
      for (int i = 0; i < many; i++) {
        PassedClocks x = gone(changed(what, i));
        due("tried(" + what + ", " + i + ")", asked.tried(what, i), apart(x));
        for (int t = 0; t < village.things(); t++) due("other(" + what + ", " + i + ", " + t + ")", asked.other(what, i, t), x.off(t));
      }
    }
  }

  private Village changed(int what, int i) {
    Village v = village.copy();
    switch (what) {
      case 0: v.rounds.removeIf(r -> r[0] == i); break;
      case 1: v.people.get(i).custom = "sets"; break;
      case 2: v.people.get(i).custom = "takes"; break;
      case 3: v.people.get(i).custom = "half"; break;
      case 4: for (Thing p : v.people) p.rule = ""; break;
      case 5: v.guns.clear(); break;
      case 6: for (int t = 0; t < v.things(); t++) v.thing(t).gain = 0; break;
      case 7: v.people.get(i).right(); break;
      default: v.guns.add(new int[] {i, 12});
    }
    return v;
  }

  private Village shifted(int thing, int by) {
    Village v = village.copy();
    v.thing(thing).first += by;
    return v;
  }

  private void moves() {
    PassedClocks plain = gone(village);
    for (int other = 0; other < village.things(); other++) {
      int by = below(5001) - 2500;
      PassedClocks x = gone(shifted(other, by));
      for (int t = 0; t < village.things(); t++) due("moved(" + t + ", " + other + ", " + by + ")", asked.moved(t, other, by), x.off(t) - plain.off(t));
    }
  }

  private void roughEnds() {
    int things = village.things();
    int[] least = new int[things];
    int[] most = new int[things];
    for (int signs = 0; signs < 1 << things; signs++) {
      Village v = village.copy();
      for (int t = 0; t < things; t++) v.thing(t).first += (signs >> t & 1) == 1 ? v.thing(t).rough : -v.thing(t).rough;
      PassedClocks x = gone(v);
      for (int t = 0; t < things; t++) {
        least[t] = signs == 0 ? x.off(t) : Math.min(least[t], x.off(t));
        most[t] = signs == 0 ? x.off(t) : Math.max(most[t], x.off(t));
      }
    }
    for (int t = 0; t < things; t++) {
      due("ends(" + t + ", 0)", asked.ends(t, 0), least[t]);
      due("ends(" + t + ", 1)", asked.ends(t, 1), most[t]);
    }
  }

  private void readings() {
    List<int[]> read = new ArrayList<>();
    int latest = Math.min(1999, hours + 40);
    PassedClocks far = told(village);
    goTo(far, latest + 1);
    for (int i = below(6); i > 0; i--) {
      int t = below(village.things());
      int h = below(latest + 1);
      int low = far.was(t, h) - below(1500) + (chance(10) ? 800 : 0);
      int[] r = {t, h, low, low + below(3000)};
      due("reading", asked.reading(r[0], r[1], r[2], r[3]), read.size());
      read.add(r);
    }
    int known = chance(50) ? -1 : below(read.size() + 1);
    due("known", asked.known(known) ? 1 : 0, 1);
    List<int[]> taken = known < 0 ? read : read.subList(0, known);
    due("judged()", asked.judged(), firstWrong(far, taken));
    for (int t = 0; t < village.things(); t++) ways(t, taken, latest);
  }

  private static int firstWrong(PassedClocks x, List<int[]> readings) {
    for (int i = 0; i < readings.size(); i++) {
      int[] r = readings.get(i);
      int was = x.was(r[0], r[1]);
      if (was < r[2] || was > r[3]) return i;
    }
    return PassedClocks.NONE;
  }

  private void ways(int thing, List<int[]> readings, int latest) {
    int found = 0;
    for (int k = -60; k <= 60; k++) {
      PassedClocks x = told(shifted(thing, 60 * k));
      goTo(x, readings.isEmpty() ? 0 : latest + 1);
      if (firstWrong(x, readings) == PassedClocks.NONE) {
        due("way(" + thing + ", " + found + ")", asked.way(thing, found), 60 * k);
        found++;
      }
    }
    due("wrong(" + thing + ")", asked.wrong(thing), found);
    due("way behind the last", asked.way(thing, found), Integer.MIN_VALUE);
  }

  private void fewest() {
    int d = below(chance(50) ? 300 : 3000);
    int best = -1;
    for (int bits = 0; bits < 1 << village.people.size(); bits++) {
      Village v = village.copy();
      for (int p = 0; p < v.people.size(); p++) if ((bits >> p & 1) == 1) v.people.get(p).right();
      boolean better = best < 0 || Integer.bitCount(bits) < Integer.bitCount(best);
      if (better && apart(gone(v)) <= d) best = bits;
    }
    due("fewest(" + d + ", 0)", asked.fewest(d, 0), best < 0 ? -2 : Integer.bitCount(best));
    due("fewest(" + d + ", 1)", asked.fewest(d, 1), best < 0 ? -2 : best);
  }

  private void agrees() {
    int d = below(chance(50) ? 300 : 3000);
    int from = PassedClocks.NONE;
    for (int h = 0; h < hours; h++) {
      int most = Integer.MIN_VALUE;
      int least = Integer.MAX_VALUE;
      for (int t = 0; t < village.things(); t++) {
        most = Math.max(most, asked.was(t, h));
        least = Math.min(least, asked.was(t, h));
      }
      due("spread(" + h + ")", asked.spread(h), most - least);
      from = most - least > d ? PassedClocks.NONE : from < 0 ? h : from;
    }
    due("agree(" + d + ")", asked.agree(d), from);
  }

  private void often() {
    int clock = below(village.clocks.size());
    int[][] widest = new int[169][1];
    for (int k = 1; k <= 168; k++) byHand(clock, k, hours, widest[k]);
    int d = widest[1 + below(chance(50) ? 168 : 30)][0] - below(2);
    if (d < 0 || d > 100000) return;
    int found = 0;
    for (int k = 1; k <= 168; k++) if (widest[k][0] <= d) found = k;
    due("often(" + clock + ", " + d + ")", asked.often(clock, d), found);
  }

  private void purposes() {
    int p = below(village.people.size());
    int c = below(village.clocks.size());
    int[][] off = new int[hours][];
    for (int h = 0; h < hours; h++) {
      PassedClocks x = told(village);
      goTo(x, h + 1);
      x.pass(p, c);
      goTo(x, hours);
      off[h] = new int[village.things()];
      for (int t = 0; t < off[h].length; t++) off[h][t] = x.off(t);
    }
    for (int t = 0; t < village.things(); t++) {
      int most = 0;
      int least = 0;
      for (int h = 1; h < hours; h++) {
        if (off[h][t] > off[most][t]) most = h;
        if (off[h][t] < off[least][t]) least = h;
      }
      due("purpose, the hour of the most", asked.purpose(p, c, t, true, 0), most);
      due("purpose, the most", asked.purpose(p, c, t, true, 1), off[most][t]);
      due("purpose, the hour of the least", asked.purpose(p, c, t, false, 0), least);
      due("purpose, the least", asked.purpose(p, c, t, false, 1), off[least][t]);
    }
  }

  /** A row is what passings by hand would make, then brought back; waits() is the difference of two watches. */
  private void images() {
    int clocks = village.clocks.size();
    int people = village.people.size();
    for (int p = 0; p < people; p++) {
      due("waits(" + p + ", 0)", asked.waits(p, 0), asked.off(clocks + p) - asked.off(clocks));
    }
    if (hours == 0) return;
    int[] before = new int[village.things()];
    for (int t = 0; t < before.length; t++) before[t] = asked.off(t);
    int passings = asked.count(8);
    int n = below(13);
    long[] bytes = new long[2];
    due("keep()", asked.keep(), hours);
    int[] row = new int[n];
    for (int i = 0; i < n; i++) {
      row[i] = below(people) | below(clocks) << 4;
      bytes[i / 8] |= (long) row[i] << 8 * (i % 8);
    }
    int[] inRow = new int[before.length];
    for (int t = 0; t < before.length; t++) inRow[t] = asked.row(n, bytes[0], bytes[1], t);
    for (int passing : row) asked.pass(passing & 15, passing >> 4);
    for (int t = 0; t < before.length; t++) due("row of " + n, inRow[t], asked.off(t));
    due("count(8) behind a row", asked.count(8), passings + n);
    asked.hours(below(50));
    due("back()", asked.back(), hours);
    due("count(8) brought back", asked.count(8), passings);
    for (int t = 0; t < before.length; t++) {
      due("off(" + t + ") brought back", asked.off(t), before[t]);
      due("was(" + t + ") brought back", asked.was(t, hours - 1), before[t]);
    }
  }
}
