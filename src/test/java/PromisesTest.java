import java.util.NoSuchElementException;

/** The document's promises one by one, with answers worked out by hand from its words. */
public final class PromisesTest {
  private static final int NO = Integer.MIN_VALUE;
  private static int wrong = 0;
  private static int promise = 0;

  private static void due(String what, long got, long want) {
    if (got != want) {
      wrong++;
      System.out.println("promise " + promise + ": " + what + " answered " + got + ", due is " + want);
    }
  }

  private static void feed(PassedClocks x, String s) {
    StringBuilder b = new StringBuilder(s);
    while (b.length() % 20 != 0) b.append(' ');
    for (int i = 0; i < b.length(); i += 20) {
      int[] v = new int[5];
      for (int k = 0; k < 20; k++) v[k / 4] = v[k / 4] << 8 | b.charAt(i + k);
      x.feed(v[0], v[1], v[2], v[3], v[4]);
    }
  }

  private static int text(PassedClocks x, String s) {
    feed(x, s);
    return x.text(s.length());
  }

  private static PassedClocks told(String s) {
    PassedClocks x = new PassedClocks();
    int lines = 0;
    for (int i = 0; i < s.length(); i++) if (s.charAt(i) == ';') lines++;
    due("text \"" + s + "\"", text(x, s), lines);
    return x;
  }

  private static PassedClocks after(int hours, String s) {
    PassedClocks x = told(s);
    for (int left = hours; left > 0; left -= 500) x.hours(Math.min(500, left));
    due("hours", x.count(6), hours);
    return x;
  }

  private static void fault(String s, int fault, int place) {
    PassedClocks x = new PassedClocks();
    due("text \"" + s + "\"", text(x, s), fault == 0 ? s.chars().filter(c -> c == ';').count() : -1);
    due("fault of \"" + s + "\"", x.fault(0), fault);
    due("its place in \"" + s + "\"", x.fault(1), place);
  }

  private static int letters(String s) {
    int v = 0;
    for (int i = 0; i < 6; i++) v = v << 5 | (i < s.length() ? s.charAt(i) - 'a' + 1 : 0);
    return v;
  }

  /** 1 IndexOutOfBoundsException, 2 NoSuchElementException, else what it answers and 1000000. */
  private static int look(PassedClocks x, int person, int what) {
    try {
      return 1000000 + x.look(person, what);
    } catch (IndexOutOfBoundsException e) {
      return 1;
    } catch (NoSuchElementException e) {
      return 2;
    }
  }

  public static void main(String[] args) {
    newObject();
    feeding();
    texts();
    faults();
    faultsOfRules();
    names();
    looks();
    hoursAndGains();
    gunsAndRounds();
    passings();
    customs();
    limits();
    rows();
    rules();
    rulesAtWork();
    moves();
    endsOfRough();
    readings();
    ways();
    tries();
    agreeing();
    oftenEnough();
    fewestRight();
    purposes();
    waiting();
    images();
    counts();
    System.out.println(wrong == 0 ? "all promises hold" : wrong + " answers are not as due");
    if (wrong != 0) System.exit(1);
  }

  private static void newObject() {
    promise = 1;
    PassedClocks x = new PassedClocks();
    for (int i = 0; i < 9; i++) due("count(" + i + ")", x.count(i), 0);
    due("NONE", PassedClocks.NONE, -1);
    due("fault(0)", x.fault(0), 0);
    due("fault(1)", x.fault(1), -1);
    due("off(0)", x.off(0), NO);
    due("back()", x.back(), -1);
    due("text(1)", x.text(1), -2);
    due("text(0)", x.text(0), 0);
    due("wrong(0)", x.wrong(0), -1);
    due("way(0, 0)", x.way(0, 0), NO);
    due("judged()", x.judged(), -1);
    due("known(-1)", x.known(-1) ? 1 : 0, 1);
    due("known(0)", x.known(0) ? 1 : 0, 1);
    due("known(1)", x.known(1) ? 1 : 0, 0);
    due("tried(5, 0)", x.tried(5, 0), 0);
    due("tried(0, 0)", x.tried(0, 0), -1);
    due("tried(8, 0)", x.tried(8, 0), -1);
    due("other(5, 0, 0)", x.other(5, 0, 0), NO);
    due("often(0, 5)", x.often(0, 5), -1);
    due("fewest(0, 1)", x.fewest(0, 1), 0);
    due("ends(0, 0)", x.ends(0, 0), NO);
    due("rule(0, 0, 0, 0, 0)", x.rule(0, 0, 0, 0, 0), Long.MIN_VALUE);
    due("waits(0, 0)", x.waits(0, 0), NO);
    due("keep()", x.keep(), 0);
    due("hours(7)", x.hours(7), 7);
    due("back()", x.back(), 0);
  }

  private static void feeding() {
    promise = 2;
    PassedClocks x = new PassedClocks();
    for (int i = 1; i <= 35; i++) due("feed no. " + i, x.feed(0x20202020, 0x20202020, 0x20202020, 0x20202020, 0x0a0a0a0a), 20 * i);
    due("the 36th feed", x.feed(0x3b3b3b3b, 0, 0, 0, 0), -1);
    due("text(701)", x.text(701), -2);
    due("text(700)", x.text(700), 0);
    due("feed then", x.feed(0, 0, 0, 0, 0), 20);
    due("bytes 0 are no token", x.text(20), -1);
    due("at", x.fault(1), 0);
    due("feed behind a fault", x.feed(0x636c6f63, 0x6b20632d, 0x313b20ff, 0xffffffff, -1), 20);
    due("the highest byte first", x.text(11), 1);
    due("clock c-1", x.clock(0, 0), -1);
  }

  private static void texts() {
    promise = 3;
    PassedClocks x = told("clock c 5;person p 7 sets;round p c 3;gun c 4;");
    x.hours(10);
    x.reading(0, 1, 0, 9);
    x.reading(0, 1, 0, 9);
    x.known(1);
    x.keep();
    due("a text with a fault", text(x, "clock c 6; clock"), -1);
    due("all stays: clock", x.clock(0, 0), 5);
    due("all stays: hours", x.count(6), 10);
    due("all stays: readings", x.count(4), 2);
    due("all stays: known", x.count(5), 1);
    due("all stays: was", x.was(0, 3), 7);
    due("all stays: passings", x.count(8), 1);
    due("all stays: image", x.back(), 10);
    feed(x, "clock d 8;clock e 9;");
    due("text(-1)", x.text(-1), -2);
    due("text(21)", x.text(21), -2);
    due("the fault is that of the text ahead", x.fault(1), 16);
    due("text(10) leaves the rest", x.text(10), 1);
    due("clock", x.clock(0, 0), 8);
    due("clocks", x.count(0), 1);
    due("people", x.count(1), 0);
    due("rounds", x.count(2), 0);
    due("guns", x.count(3), 0);
    due("hour", x.count(6), 0);
    due("readings", x.count(4), 0);
    due("no image", x.back(), -1);
    due("the tape is empty", x.text(1), -2);
    due("no fault", x.fault(0), 0);
    due("no place", x.fault(1), -1);
    x.reading(0, 0, 8, 8);
    due("all known", x.count(5), 1);
    feed(x, "clock abcdefg 5;    ");
    due("a text that ends within a word", x.text(12), -1);
    due("its letters are six", x.fault(1), 12);
    feed(x, "clock c 360001;     ");
    due("a text that ends within a number", x.text(13), -1);
    due("it is not beyond", x.fault(0), 1);
    due("its place", x.fault(1), 13);
    due("blanks", text(x, " \nclock\n\nc-5gains-3rough 2 ;\n"), 1);
    due("off", x.off(0), -5);
    due("gain", x.clock(0, 1), -3);
    due("rough", x.clock(0, 2), 2);
    due("rough ahead of gains", text(x, "clock c 0 rough 2 gains 3;"), 1);
    due("gain", x.clock(0, 1), 3);
    due("rough", x.clock(0, 2), 2);
    due("the next one has none", text(x, "clock c 0;person p 0 sets;"), 2);
    due("gain", x.clock(0, 1), 0);
    due("rough", x.clock(0, 2), 0);
    due("clocks and people may have one name", text(x, "clock c 1;person c 2 sets;round c c 3;"), 3);
    due("zeros ahead", text(x, "clock c 00000000000000000000036000;"), 1);
    due("- 0", text(x, "clock c -0;"), 1);
  }

  private static void faults() {
    promise = 4;
    due("fault(2)", new PassedClocks().fault(2), -1);
    due("fault(-1)", new PassedClocks().fault(-1), -1);
    fault("", 0, -1);
    fault("clock c 1;", 0, -1);
    fault("clock c 1", 1, 9);
    fault("clock c 1  \n ", 1, 13);
    fault(";", 1, 0);
    fault("clock c 1;;", 1, 10);
    fault("clocks c 1;", 1, 0);
    fault("clock clock 1;", 1, 6);
    fault("clock day 1;", 1, 6);
    fault("clock dayx 1;", 0, -1);
    fault("clock abcdef 1;", 0, -1);
    fault("clock abcdefg 1;", 1, 6);
    fault("clock C 1;", 1, 6);
    fault("clock c\t1;", 1, 7);
    fault("clock c 1.;", 1, 9);
    fault("clock c \u00ff;", 1, 8);
    fault("clock c --1;", 1, 9);
    fault("clock c +1;", 1, 8);
    fault("clock c 36000;clock d -36000;", 0, -1);
    fault("clock c 36001;", 2, 8);
    fault("clock c -36001;", 2, 9);
    fault("clock c 99999999999999999999;", 2, 8);
    fault("clock c 4294967297;", 2, 8);
    fault("clock c 1 gains 600;clock d 1 gains -600;", 0, -1);
    fault("clock c 1 gains 601;", 2, 16);
    fault("clock c 1 gains - 601;", 2, 18);
    fault("clock c 1 rough 36000;", 0, -1);
    fault("clock c 1 rough 36001;", 2, 16);
    fault("clock c 1 rough -1;", 1, 16);
    fault("clock c 1 rough 0 rough 0;", 3, 18);
    fault("clock c 1 gains 0 rough 1 gains;", 3, 26);
    fault("clock c 1 if 1;", 1, 10);
    fault("clock c 1 sets;", 1, 10);
    fault("clock c 1;person c 1 sets;clock c", 3, 32);
    fault("person c 1 sets;person c 1 sets;", 3, 23);
    fault("person p 1 clock;", 1, 11);
    fault("person p sets;", 1, 9);
    fault("person p 1;", 1, 10);
    fault("person p 1 gains 5;", 1, 11);
    fault("person p 1", 1, 10);
    fault(";".repeat(700), 1, 0);
    fault("<".repeat(700), 1, 0);
    fault("clock c 1;" + " ".repeat(689) + "<", 1, 699);
    fault("person p 1 part 60 60;", 0, -1);
    fault("person p 1 part 61 61;", 2, 16);
    fault("person p 1 part 0 5;", 2, 16);
    fault("person p 1 part 5 4;", 2, 18);
    fault("person p 1 part 5 61;", 2, 18);
    fault("person p 1 part 5;", 1, 17);
    fault("person p 1 middle 0;", 2, 18);
    fault("person p 1 middle 5;", 0, -1);
    fault("person p 1 middle 6;", 2, 18);
    fault("person p 1 middle;", 1, 17);
    fault("person p 1 sets 1;", 1, 16);
    fault("clock c 1;person p 1 sets;round c p 1;", 4, 32);
    fault("clock c 1;person p 1 sets;round p p 1;", 4, 34);
    fault("clock c 1;person p 1 sets;round p c 168;", 2, 36);
    fault("clock c 1;person p 1 sets;round p c -1;", 1, 36);
    fault("clock c 1;person p 1 sets;round p c 167;round p c 0;", 0, -1);
    fault("round sets c 1;", 1, 6);
    fault("round longername c 1;", 1, 6);
    fault("clock c 1;gun c;", 1, 15);
    fault("clock c 1;gun d 1;", 4, 14);
    fault("clock c 1;gun c 168;", 2, 16);
    fault("gun c 1;clock c 1;", 4, 4);
    fault("clock a 0;clock b 0;clock c 0;clock d 0;clock e 0;", 0, -1);
    fault("clock a 0;clock b 0;clock c 0;clock d 0;clock e 0;clock ?", 2, 50);
    fault("person a 0 sets;person b 0 sets;person c 0 sets;person d 0 sets;person e 0 sets;person e", 2, 80);
    fault("clock c 0;gun c 0;gun c 0;gun c 0;gun d", 2, 34);
    fault("clock c 0;person p 0 sets;" + "round p c 0;".repeat(12), 0, -1);
    fault("clock c 0;person p 0 sets;" + "round p c 0;".repeat(12) + "round q d", 2, 26 + 144);
    fault("clock c 99999; ?", 2, 8);
  }

  private static void rule(String e, int fault, int place) {
    fault("person p 0 sets if " + e, fault, fault == 0 ? -1 : 19 + place);
  }

  private static void faultsOfRules() {
    promise = 4;
    rule("1;", 0, 0);
    rule(";", 1, 0);
    rule("", 1, 0);
    rule("99999;", 0, 0);
    rule("100000;", 2, 0);
    rule("-1;", 1, 0);
    rule("1 2;", 1, 2);
    rule("1<2<3;", 1, 3);
    rule("1=2=3;", 1, 3);
    rule("(1<2)<3;", 0, 0);
    rule("1< =2;", 1, 3);
    rule("1> =2;", 1, 3);
    rule("1<=2 or 1>=2 or 1<>2;", 0, 0);
    rule("1=<2;", 1, 2);
    rule("1><2;", 1, 2);
    rule("1<>=2;", 1, 3);
    rule("1< >2;", 1, 3);
    rule("not not not 1;", 0, 0);
    rule("1 not 2;", 1, 2);
    rule("1+not 2;", 1, 2);
    rule("1<not 2;", 1, 2);
    rule("1 and not 2;", 0, 0);
    rule("1 and;", 1, 5);
    rule("1 or or 2;", 1, 5);
    rule("1+*2;", 1, 2);
    rule("ahead+last*passed-hour/day;", 0, 0);
    rule("clock;", 1, 0);
    rule("p;", 1, 0);
    rule("();", 1, 1);
    rule("(1;", 1, 2);
    rule("1);", 1, 1);
    rule("((((((((1))))))));", 0, 0);
    rule("(((((((((1)))))))));", 2, 8);
    rule("((((((((1))))))))+((((((((1))))))));", 0, 0);
    rule("1 if 2;", 3, 2);
    rule("1 gains 5 if;", 3, 10);
    rule("1 gains 5 rough 6;", 0, 0);
    rule("1+1 gains 601;", 2, 10);
    rule("1 sets;", 1, 2);
    rule("1" + "+1".repeat(31) + ";", 0, 0);
    rule("not 1" + "+1".repeat(31) + ";", 0, 0);
    rule("not 1" + "+1".repeat(32) + ";", 2, 5 + 62);
    rule("1" + "+1".repeat(32) + ";", 2, 1 + 63);
    rule("not ".repeat(63) + "1;", 0, 0);
    rule("not ".repeat(64) + "1;", 2, 256);
    rule("not ".repeat(65) + "1;", 2, 256);
    rule("1" + "+1".repeat(31) + ")", 1, 63);
    rule("1" + "+1".repeat(31) + ";person q 0 sets if 1+1;", 2, 63 + 20 + 1);
    rule("1" + "+1".repeat(31) + "+1".repeat(0) + ";person q 0 sets if ?", 1, 63 + 20);
  }

  private static void names() {
    promise = 5;
    PassedClocks x = told("clock a 0;clock abcdef 0;person z 0 sets;person a 0 sets;person zz 0 sets;");
    due("a", x.named(0, 1 << 25), 0);
    due("abcdef", x.named(0, letters("abcdef")), 1);
    due("abcde", x.named(0, letters("abcde")), -1);
    due("person z", x.named(1, 26 << 25), 0);
    due("person a", x.named(1, 1 << 25), 1);
    due("person zz", x.named(1, 26 << 25 | 26 << 20), 2);
    due("clock z", x.named(0, 26 << 25), -1);
    due("low a", x.named(0, 1), -1);
    due("0", x.named(0, 0), -1);
    due("more bits", x.named(0, 1 << 25 | 1 << 31), -1);
    due("what 2", x.named(2, 1 << 25), -1);
    due("what -1", x.named(-1, 1 << 25), -1);
  }

  private static void looks() {
    promise = 6;
    PassedClocks x = told("person a -7 part 3 60 gains -8 rough 9;person b 0 middle 4 if 0;person c 1 half;person d 1 takes;person e 1 sets;");
    int[] due = {-7, -8, 9, 3, 3, 60, 0};
    for (int i = 0; i < 7; i++) due("look(0, " + i + ")", look(x, 0, i), 1000000 + due[i]);
    int[] second = {0, 0, 0, 4, 4, 0, 1};
    for (int i = 0; i < 7; i++) due("look(1, " + i + ")", look(x, 1, i), 1000000 + second[i]);
    due("half", look(x, 2, 3), 1000002);
    due("no numbers", look(x, 2, 4), 1000000);
    due("takes", look(x, 3, 3), 1000001);
    due("sets", look(x, 4, 3), 1000000);
    due("no such person", look(x, 5, 0), 1);
    due("no such person", look(x, -1, 0), 1);
    due("no such what", look(x, 4, 7), 2);
    due("no such what", look(x, 4, -1), 2);
    due("neither", look(x, 5, 7), 1);
    due("none told", look(new PassedClocks(), 0, 0), 1);
    promise = 7;
    x = told("clock a -36000 gains -600 rough 36000;clock b 5;person p 1 sets;");
    due("clock(0, 0)", x.clock(0, 0), -36000);
    due("clock(0, 1)", x.clock(0, 1), -600);
    due("clock(0, 2)", x.clock(0, 2), 36000);
    due("clock(1, 0)", x.clock(1, 0), 5);
    due("clock(0, 3)", x.clock(0, 3), NO);
    due("clock(0, -1)", x.clock(0, -1), NO);
    due("clock(2, 0)", x.clock(2, 0), NO);
    due("clock(-1, 0)", x.clock(-1, 0), NO);
    promise = 8;
    x = told("clock a 0;clock b 0;person p 1 sets;person q 1 sets;round q a 167;round p b 0;");
    due("round(0, 0)", x.round(0, 0), 1);
    due("round(0, 1)", x.round(0, 1), 0);
    due("round(0, 2)", x.round(0, 2), 167);
    due("round(1, 0)", x.round(1, 0), 0);
    due("round(1, 1)", x.round(1, 1), 1);
    due("round(1, 2)", x.round(1, 2), 0);
    due("round(1, 3)", x.round(1, 3), -1);
    due("round(2, 0)", x.round(2, 0), -1);
    due("round(-1, 0)", x.round(-1, 0), -1);
    due("round(0, -1)", x.round(0, -1), -1);
  }

  private static void hoursAndGains() {
    promise = 9;
    PassedClocks x = told("clock a 100 gains 7;person p -50 sets gains -2;");
    due("hours(0)", x.hours(0), 0);
    due("off at first", x.off(0), 100);
    due("hours(-1)", x.hours(-1), -1);
    due("hours(501)", x.hours(501), -1);
    due("hours(1)", x.hours(1), 1);
    promise = 10;
    due("no gain in hour 0", x.off(0), 100);
    due("hours(1)", x.hours(1), 2);
    due("one gain", x.off(0), 107);
    due("the watch", x.off(1), -52);
    due("off(2)", x.off(2), NO);
    due("off(-1)", x.off(-1), NO);
    promise = 9;
    due("hours(500)", x.hours(500), 502);
    x.hours(500);
    x.hours(500);
    due("beyond", x.hours(499), -1);
    due("up to the last", x.hours(498), 2000);
    due("none more", x.hours(1), -1);
    due("none at all", x.hours(0), 2000);
    promise = 12;
    due("was(0, 0)", x.was(0, 0), 100);
    due("was(0, 1999)", x.was(0, 1999), 100 + 1999 * 7);
    due("was(1, 1000)", x.was(1, 1000), -2050);
    due("was(0, 2000)", x.was(0, 2000), NO);
    due("was(0, -1)", x.was(0, -1), NO);
    due("was(2, 0)", x.was(2, 0), NO);
    due("was(-1, 0)", x.was(-1, 0), NO);
    promise = 13;
    due("spread(0)", x.spread(0), 150);
    due("spread(1999)", x.spread(1999), 150 + 9 * 1999);
    due("spread(2000)", x.spread(2000), -1);
    due("spread(-1)", x.spread(-1), -1);
    x = after(3, "clock a 5;");
    due("of one", x.spread(2), 0);
    due("not gone by", x.spread(3), -1);
    due("was not gone by", x.was(0, 3), NO);
  }

  private static void gunsAndRounds() {
    promise = 9;
    PassedClocks x = after(200, "clock a 100 gains 10;gun a 5;");
    due("ahead of the gun", x.was(0, 4), 140);
    due("the gun behind the gain", x.was(0, 5), 0);
    due("then", x.was(0, 6), 10);
    due("a week on", x.was(0, 172), 10 * 167);
    due("the gun again", x.was(0, 173), 0);
    x = after(1, "clock a 100;gun a 0;");
    due("a gun in hour 0", x.off(0), 0);
    x = after(1, "clock a 100;person p 30 takes;round p a 0;gun a 0;");
    due("guns ahead of rounds", x.off(1), 0);
    x = after(3, "clock a 100;clock b 0;person p 30 takes;person q 5 sets;round p b 2;round p a 2;round q a 2;");
    due("rounds by numbers: the watch", x.off(2), 100);
    due("rounds by numbers: the clock", x.off(0), 5);
    x = after(180, "clock a 100;person p 0 sets gains 1;round p a 167;round p a 3;");
    due("was 2", x.was(0, 2), 100);
    due("was 3", x.was(0, 3), 3);
    due("was 166", x.was(0, 166), 3);
    due("was 167", x.was(0, 167), 167);
    due("was 171", x.was(0, 171), 171);
    due("passings", x.count(8), 3);
  }

  private static void passings() {
    promise = 11;
    PassedClocks x = told("clock a 100;clock b 40;person p 10 takes;person q 0 middle 2;round p a 1;round q a 1;");
    due("last at first", x.now(0, 0), 0);
    due("passed at first", x.now(0, 1), 0);
    due("kept at first", x.now(1, 2), 0);
    x.hours(2);
    due("last", x.now(0, 0), 90);
    due("passed", x.now(0, 1), 1);
    due("kept of takes", x.now(0, 2), 0);
    due("kept of middle", x.now(1, 2), 1);
    due("now(0, 3)", x.now(0, 3), NO);
    due("now(0, -1)", x.now(0, -1), NO);
    due("now(2, 0)", x.now(2, 0), NO);
    due("now(-1, 0)", x.now(-1, 0), NO);
    promise = 14;
    due("no such person", x.pass(2, 0), NO);
    due("no such clock", x.pass(0, 2), NO);
    due("below", x.pass(-1, 0), NO);
    due("below", x.pass(0, -1), NO);
    due("none of these was one", x.count(8), 2);
    due("pass(0, 1)", x.pass(0, 1), 40);
    due("the watch took it", x.off(2), 40);
    due("the past hour shows it", x.was(2, 1), 40);
    due("spread of the past hour", x.spread(1), 60);
    due("the hour ahead of it does not", x.was(2, 0), 10);
    due("last by hand", x.now(0, 0), -60);
    due("passed by hand", x.now(0, 1), 2);
    due("passings", x.count(8), 3);
    x.hours(1);
    due("it goes on from there", x.was(2, 2), 40);
    due("and stays", x.was(2, 1), 40);
    x = told("clock a 100;person p 10 sets;");
    due("no hour went by", x.pass(0, 0), NO);
    x.hours(1);
    due("now one did", x.pass(0, 0), 10);
    x = after(3, "clock a 100;person p 10 sets if hour = 2;");
    due("the hour is that of the last one", x.pass(0, 0), 10);
    x = after(4, "clock a 100;person p 10 sets if hour = 2;");
    due("not done", x.pass(0, 0), 100);
    due("but passed", x.now(0, 1), 1);
    due("and seen", x.now(0, 0), 90);
  }

  private static void customs() {
    promise = 14;
    PassedClocks x = after(1, "clock a -4;clock b 7;person p 1 half;");
    due("half of -4 and 1 downwards", x.pass(0, 0), -2);
    due("the watch too", x.off(2), -2);
    due("half of 7 and -2", x.pass(0, 1), 2);
    x = after(1, "clock a 10;clock b -10;person p 0 part 1 3;");
    due("a third of 10 towards 0", x.pass(0, 0), 7);
    due("a third of -10 towards 0", x.pass(0, 1), -7);
    due("the watch stays", x.off(2), 0);
    x = after(1, "clock a 36000;person p -36000 part 60 60;");
    due("all of it", x.pass(0, 0), -36000);
    x = after(1, "clock a 100;clock b 0;clock c -60;person p 0 middle 3;");
    x.pass(0, 0);
    due("kept 100", x.off(3), 100);
    x.pass(0, 1);
    due("kept 100, -100: the lower", x.off(3), 0);
    x.pass(0, 2);
    due("kept 100, -100, -60", x.off(3), -60);
    due("so many", x.now(0, 2), 3);
    x.pass(0, 0);
    due("kept -100, -60, 160", x.off(3), -120);
    due("so many still", x.now(0, 2), 3);
    x = after(1, "clock a 100;person p 0 middle 1;");
    x.pass(0, 0);
    x.pass(0, 0);
    due("the middle of one", x.off(1), 100);
    due("kept", x.now(0, 2), 1);
    x = after(1, "clock a 5;clock b 1;clock c 9;clock d 3;person p 0 middle 4 if passed < 9;");
    x.pass(0, 0);
    due("5", x.off(4), 5);
    x.pass(0, 1);
    due("-4, 5", x.off(4), 1);
    x.pass(0, 2);
    due("-4, 5, 8", x.off(4), 6);
    x.pass(0, 3);
    due("-4, -3, 5, 8: the second", x.off(4), 3);
    x.pass(0, 2);
    due("-4, 8, -3, 6: the second", x.off(4), 0);
  }

  /** Passings of a clock far ahead and one far behind that drive a watch to the limit: found by search, for hour 1900. */
  static final String UP = "bbaaaabaabbabbaabbbbaaaaabbbbbabaaaaabaaaabbbaabbaaaaaaabaaaabbbaabbaa"
      + "aaaaabaaaabbbaaaaaaaaaaaabbaaabbaaaaaaabbbaabbaaaaaaabaaaabba";
  static final String DOWN = "bbaaaabbbbbaaaaaabbbaabaabbbbbaaaaaaabaaaabbbaabbaaaaaaabaaaabbbaabbaa"
      + "aaaaabaaaabbbaaaaaaaaaaaabbaaabbaaaaaaabbbaabbaaaaaaabaa";

  private static PassedClocks driven(String way, String person) {
    PassedClocks x = after(1900, "clock a 36000 gains 600;clock b -36000 gains -600;person p " + person + ";person q 0 sets;");
    due("nothing yet", x.off(2), 0);
    for (int i = 0; i < way.length(); i++) x.pass(0, way.charAt(i) - 'a');
    return x;
  }

  private static void limits() {
    promise = 14;
    int ahead = 36000 + 600 * 1899;
    PassedClocks x = driven(UP, "-18990 middle 5 gains 10");
    due("no more than that", x.off(2), 1000000000);
    due("spread", x.spread(1899), 1000000000 + ahead);
    due("waits", x.waits(0, 1), 1000000000);
    x.hours(3);
    due("it stays so", x.was(2, 1900), 1000000000);
    due("it stays so", x.off(2), 1000000000);
    x = driven(UP, "18990 middle 5 gains -10");
    x.hours(3);
    due("it goes down from there", x.off(2), 1000000000 - 30);
    x = driven(DOWN, "18990 middle 5 gains -10");
    due("no less than that", x.off(2), -1000000000);
    x.hours(3);
    due("it stays so", x.off(2), -1000000000);
    due("waits", x.waits(1, 0), 1000000000);
    x.pass(0, 0);
    due("ahead by so much", x.now(0, 0), 1000000000 + ahead + 1800);
    x = driven(DOWN, "-18990 middle 5 gains 10");
    x.hours(3);
    due("it goes up from there", x.off(2), -1000000000 + 30);
  }

  private static void rows() {
    promise = 15;
    PassedClocks x = told("clock a 100;clock b 40;person p 10 takes;person q 0 sets;");
    due("no hour went by", x.row(0, 0, 0, 0), NO);
    x.hours(1);
    due("of none", x.row(0, -1L, -1L, 0), 100);
    due("p a", x.row(1, 0x00, 0, 2), 100);
    due("p a, p b", x.row(2, 0x1000, 0, 2), 40);
    due("p b, p a", x.row(2, 0x0010, 0, 2), 100);
    due("q b, p b, p a: the rest is free", x.row(2, 0x7fff001011L, -1, 2), 0);
    due("nothing is done", x.off(2), 10);
    due("no passing", x.count(8), 0);
    due("nothing in the past", x.was(1, 0), 40);
    long eight = 0x1010101010101010L;
    due("twelve, the last at a", x.row(12, eight, 0x00101010L, 2), 100);
    due("eleven of them", x.row(11, eight, 0x00101010L, 2), 40);
    due("the ninth", x.row(9, eight, 0, 2), 100);
    due("the eighth highest", x.row(8, 0x0010101010101010L, 0, 2), 100);
    due("a low one below 0", x.row(8, 0xf010101010101010L, 0, 2), NO);
    due("thirteen", x.row(13, eight, eight, 2), NO);
    due("-1", x.row(-1, eight, eight, 2), NO);
    due("no such person", x.row(1, 0x02, 0, 2), NO);
    due("no such clock", x.row(1, 0x20, 0, 2), NO);
    due("no such person behind", x.row(2, 0x0200, 0, 2), NO);
    due("no such thing", x.row(1, 0, 0, 4), NO);
    due("no such thing", x.row(1, 0, 0, -1), NO);
    x.pass(1, 0);
    due("from what is now", x.row(1, 0, 0, 2), 0);
  }

  private static long value(String e, int ahead, int last, int passed, int hour) {
    return told("person p 0 sets if " + e + ";").rule(0, ahead, last, passed, hour);
  }

  private static void rules() {
    promise = 16;
    due("7", value("7", 0, 0, 0, 0), 7);
    due("names", value("ahead*10000+last*1000+passed*100", 5, 4, 3, 0), 54300);
    due("hour of the day", value("hour", 0, 0, 0, 25), 1);
    due("day", value("day", 0, 0, 0, 24 * 8 + 23), 1);
    due("day of the last hour", value("day", 0, 0, 0, 1999), 83 % 7);
    due("left to right", value("10-3-2", 0, 0, 0, 0), 5);
    due("left to right", value("100/7*2", 0, 0, 0, 0), 28);
    due("* binds", value("2+3*4", 0, 0, 0, 0), 14);
    due("( )", value("(2+3)*4", 0, 0, 0, 0), 20);
    due("/ towards 0", value("ahead/2", -7, 0, 0, 0), -3);
    due("/ by below 0", value("7/ahead", -2, 0, 0, 0), -3);
    due("<", value("1<1", 0, 0, 0, 0), 0);
    due("<=", value("1<=1", 0, 0, 0, 0), 1);
    due("=", value("1=1", 0, 0, 0, 0), 1);
    due("<>", value("1<>1", 0, 0, 0, 0), 0);
    due(">=", value("1>=2", 0, 0, 0, 0), 0);
    due(">", value("3>2", 0, 0, 0, 0), 1);
    due("and", value("5 and 7", 0, 0, 0, 0), 1);
    due("and 0", value("5 and 0", 0, 0, 0, 0), 0);
    due("or", value("0 or 7", 0, 0, 0, 0), 1);
    due("or 0", value("0 or 0", 0, 0, 0, 0), 0);
    due("and binds", value("1 or 0 and 0", 0, 0, 0, 0), 1);
    due("not", value("not 5", 0, 0, 0, 0), 0);
    due("not not", value("not not 5", 0, 0, 0, 0), 1);
    due("not of a comparison", value("not 1 = 2", 0, 0, 0, 0), 1);
    due("not and", value("not 1 and 0", 0, 0, 0, 0), 0);
    due("sums compared", value("1+1=2", 0, 0, 0, 0), 1);
    long error = Long.MIN_VALUE;
    due("/ 0", value("1/0", 0, 0, 0, 0), error);
    due("/ 0 in or", value("1 or 1/0", 0, 0, 0, 0), error);
    due("/ 0 in and", value("0 and 1/ahead", 0, 0, 0, 0), error);
    due("not / 0", value("not 1/0", 0, 0, 0, 0), error);
    due("10 to the 12", value("10000*10000*10000", 0, 0, 0, 0), 1000000000000L);
    due("one more", value("10000*10000*10000+1", 0, 0, 0, 0), error);
    due("below", value("0-10000*10000*10000", 0, 0, 0, 0), -1000000000000L);
    due("one below", value("0-10000*10000*10000-1", 0, 0, 0, 0), error);
    due("in between", value("10000*10000*10000+1-1", 0, 0, 0, 0), error);
    due("a product beyond a long", value("(10000*10000*10000)*(10000*10000*10000)", 0, 0, 0, 0), error);
    due("one that would come out small", value("(99999*65536)*(65536*65536)", 0, 0, 0, 0), error);
    due("times 0", value("(10000*10000*10000)*0", 0, 0, 0, 0), 0);
    due("the limits of the names", value("ahead+last", 99999, -99999, 99999, 1999), 0);
    due("ahead", value("1", 100000, 0, 0, 0), error);
    due("ahead", value("1", -100000, 0, 0, 0), error);
    due("last", value("1", 0, 100000, 0, 0), error);
    due("last", value("1", 0, -100000, 0, 0), error);
    due("passed", value("1", 0, 0, -1, 0), error);
    due("passed", value("1", 0, 0, 100000, 0), error);
    due("hour", value("1", 0, 0, 0, -1), error);
    due("hour", value("1", 0, 0, 0, 2000), error);
    PassedClocks x = told("person p 0 sets;person q 0 sets if 3;");
    due("no rule", x.rule(0, 0, 0, 0, 0), error);
    due("the second's", x.rule(1, 0, 0, 0, 0), 3);
    due("no such", x.rule(2, 0, 0, 0, 0), error);
    due("no such", x.rule(-1, 0, 0, 0, 0), error);
  }

  private static void rulesAtWork() {
    promise = 9;
    PassedClocks x = after(5, "clock a 90;person p 0 part 1 3 if ahead<70;person q 60 sets if passed=1;round p a 1;round q a 1;round q a 2;round p a 3;");
    due("not done by p", x.was(0, 1), 90);
    due("done by q the second time", x.was(0, 2), 60);
    due("done by p then", x.was(0, 3), 40);
    due("p's last", x.now(0, 0), 60);
    due("q's passed", x.now(1, 1), 2);
    x = after(5, "clock a 90;person p 0 sets if 1/0;round p a 1;");
    due("an error is as 0", x.off(0), 90);
    due("but passed", x.now(0, 1), 1);
    x = after(30, "clock a 90;person p 0 sets if day=1 and hour=1;round p a 1;round p a 25;");
    due("day 0", x.was(0, 1), 90);
    due("day 1", x.was(0, 25), 0);
    x = after(5, "clock a 90;person p 0 middle 3 if last=0;round p a 1;round p a 2;");
    due("kept only if done", x.now(0, 2), 1);
    due("last of the second", x.now(0, 0), 0);
    x = after(5, "clock a 90;person p 0 sets if last;round p a 1;round p a 2;");
    due("last of the first is 0", x.was(0, 1), 90);
    due("then 90", x.was(0, 2), 0);
  }

  private static void moves() {
    promise = 17;
    PassedClocks x = after(3, "clock a 90;person p 0 half;round p a 1;");
    due("of itself", x.moved(0, 0, 7), 3);
    due("of itself less", x.moved(0, 0, -7), -4);
    due("by the watch", x.moved(0, 1, 36000), 18000);
    due("0", x.moved(0, 1, 0), 0);
    due("v", x.moved(0, 1, 36001), NO);
    due("v", x.moved(0, 1, -36001), NO);
    due("thing", x.moved(2, 1, 1), NO);
    due("other", x.moved(0, 2, 1), NO);
    due("thing", x.moved(-1, 1, 1), NO);
    due("other", x.moved(0, -1, 1), NO);
    x.pass(0, 0);
    due("passings by hand are not made", x.moved(0, 0, 7), 3);
    x = told("clock a 90;person p 0 half;round p a 0;");
    due("no hour", x.moved(0, 0, 8), 8);
    due("no hour", x.moved(0, 1, 8), 0);
  }

  private static void endsOfRough() {
    promise = 18;
    PassedClocks x = after(2, "clock a 90 rough 10;person p 0 half rough 30;round p a 1;clock b 5;");
    due("least", x.ends(0, 0), 25);
    due("greatest", x.ends(0, 1), 65);
    due("of b", x.ends(1, 0), 5);
    due("of b", x.ends(1, 1), 5);
    due("of p", x.ends(2, 1), 65);
    due("what", x.ends(0, 2), NO);
    due("what", x.ends(0, -1), NO);
    due("thing", x.ends(3, 0), NO);
    due("thing", x.ends(-1, 0), NO);
    x.pass(0, 1);
    due("not by hand", x.ends(1, 1), 5);
    x = told("clock a 90 rough 10;");
    due("no hour", x.ends(0, 0), 80);
    due("no hour", x.ends(0, 1), 100);
    x = after(1, "clock a 0 rough 10;person p 0 sets if ahead*ahead<>100;round p a 0;");
    due("only the ends themselves", x.ends(0, 0), -10);
    x = told("clock a 90 rough 10;person p 0 sets;round p a 1;");
    due("ahead", x.ends(0, 1), 100);
    x.hours(2);
    due("then", x.ends(0, 1), 0);
    x.keep();
    due("other text", text(x, "clock a 7 rough 2;"), 1);
    x.hours(2);
    due("its own", x.ends(0, 1), 9);
  }

  private static void readings() {
    promise = 19;
    PassedClocks x = told("clock a 0 gains 1;person p 50 sets;round p a 10;");
    due("thing", x.reading(2, 0, 0, 0), -1);
    due("thing", x.reading(-1, 0, 0, 0), -1);
    due("hour", x.reading(0, -1, 0, 0), -1);
    due("hour", x.reading(0, 2000, 0, 0), -1);
    due("low", x.reading(0, 0, -1000001, 0), -1);
    due("high", x.reading(0, 0, 0, 1000001), -1);
    due("high below low", x.reading(0, 0, 1, 0), -1);
    due("the first", x.reading(0, 1999, -1000000, 1000000), 0);
    due("the second", x.reading(1, 0, 50, 50), 1);
    promise = 21;
    due("all are so", x.judged(), -1);
    due("the third", x.reading(0, 9, 10, 10), 2);
    due("it is not", x.judged(), 2);
    due("the fourth", x.reading(0, 10, 50, 60), 3);
    due("the fifth", x.reading(0, 3, 0, 2), 4);
    due("the first by number", x.judged(), 2);
    promise = 20;
    due("known(6)", x.known(6) ? 1 : 0, 0);
    due("known(-2)", x.known(-2) ? 1 : 0, 0);
    due("known(2)", x.known(2) ? 1 : 0, 1);
    due("how many", x.count(5), 2);
    due("judged", x.judged(), -1);
    due("a sixth", x.reading(0, 3, 0, 2), 5);
    due("still two", x.count(5), 2);
    due("known(0)", x.known(0) ? 1 : 0, 1);
    due("judged by none", x.judged(), -1);
    due("known(6)", x.known(6) ? 1 : 0, 1);
    due("judged", x.judged(), 2);
    due("known(-1)", x.known(-1) ? 1 : 0, 1);
    due("known(7)", x.known(7) ? 1 : 0, 0);
    promise = 19;
    for (int i = 6; i < 30; i++) due("reading " + i, x.reading(0, 0, 0, 0), i);
    due("the 31st", x.reading(0, 0, 0, 0), -1);
    promise = 20;
    due("by all", x.count(5), 30);
    promise = 21;
    x = after(3, "clock a 0;person p 50 sets;");
    x.pass(0, 0);
    x.reading(0, 2, 0, 0);
    due("not by hand", x.judged(), -1);
    x.reading(0, 2, -9, -1);
    due("above high", x.judged(), 1);
    x.known(0);
    x.reading(0, 1, 1, 9);
    due("known by none", x.judged(), -1);
  }

  private static void ways() {
    promise = 22;
    PassedClocks x = told("clock a 100;person p 40 sets;round p a 5;");
    due("any", x.wrong(0), 121);
    due("no such", x.wrong(2), -1);
    due("no such", x.wrong(-1), -1);
    x.reading(0, 4, 0, 300);
    due("60 k from -100 to 200", x.wrong(0), 5);
    due("any watch", x.wrong(1), 121);
    promise = 23;
    due("the least", x.way(0, 0), -60);
    due("the second", x.way(0, 1), 0);
    due("the greatest", x.way(0, 4), 180);
    due("no more", x.way(0, 5), NO);
    due("below", x.way(0, -1), NO);
    due("no such", x.way(2, 0), NO);
    due("no such", x.way(-1, 0), NO);
    due("of the watch", x.way(1, 120), 3600);
    due("of the clock again", x.way(0, 4), 180);
    x.reading(0, 1000, 160, 1000000);
    promise = 22;
    due("the clock alone doesn't", x.wrong(0), 0);
    due("the watch does, from 120 on", x.wrong(1), 59);
    promise = 23;
    due("none of the clock", x.way(0, 0), NO);
    due("the watch's least", x.way(1, 0), 120);
    x.known(1);
    due("of the first alone", x.way(0, 0), -60);
    x.known(-1);
    due("of both", x.way(0, 0), NO);
    x.known(0);
    due("of none", x.way(0, 0), -3600);
    due("the last", x.way(0, 120), 3600);
    due("no more", x.way(0, 121), NO);
  }

  private static void tries() {
    promise = 24;
    String s = "clock a 100 gains 2;clock b 0;person p 10 takes gains 1;person q 7 middle 2 if ahead>50;gun b 3;round p a 1;round q a 2;round p b 2;";
    PassedClocks x = after(15, s);
    due("without q", x.tried(0, 1), 128);
    due("p's watch without q", x.other(0, 1, 2), 12);
    due("without p", x.other(0, 0, 2), 24);
    due("q as told", x.off(3), 104);
    due("p sets", x.other(1, 0, 0), 11 + 26);
    due("p sets b", x.other(1, 0, 1), 0);
    due("q sets", x.other(1, 1, 0), 7 + 24);
    due("q takes", x.other(2, 1, 3), 104);
    due("q half", x.other(3, 1, 3), 55);
    due("q half: a", x.other(3, 1, 0), 55 + 24);
    due("no rule", x.other(4, 0, 3), 104);
    due("no gains", x.other(6, 0, 0), 100);
    due("no gains: q", x.other(6, 0, 3), 100);
    due("p right: a", x.other(7, 0, 0), 26);
    due("p right: p", x.other(7, 0, 2), 0);
    due("q right: a", x.other(7, 1, 0), 24);
    due("q right: q", x.other(7, 1, 3), 0);
    due("a gun at noon", x.other(8, 0, 0), 4);
    due("at noon for b", x.tried(8, 1), 128);
    due("noon for a", x.tried(8, 0), 104);
    due("what", x.tried(9, 0), -1);
    due("what", x.tried(-1, 0), -1);
    for (int what = 0; what < 9; what++) {
      due("i -1 of " + what, x.tried(what, -1), -1);
      due("i 2 of " + what, x.tried(what, 2), -1);
      due("i 2 of " + what, x.other(what, 2, 0), NO);
    }
    due("i 1 of 4", x.tried(4, 1), -1);
    due("i 1 of 5", x.tried(5, 1), -1);
    due("i 1 of 6", x.tried(6, 1), -1);
    promise = 25;
    due("thing", x.other(6, 0, 4), NO);
    due("thing", x.other(6, 0, -1), NO);
    due("what", x.other(9, 0, 0), NO);
    x = after(200, "clock a 0 gains 1;gun a 3;");
    due("as told", x.off(0), 28);
    due("without guns", x.other(5, 0, 0), 199);
    due("a gun each week at noon", x.other(8, 0, 0), 19);
    x = told("clock a 5;person p 9 sets;");
    due("right at once", x.other(7, 0, 1), 0);
    due("spread of it", x.tried(7, 0), 5);
    x = after(1, "clock a 5;person p 9 sets if 0;round p a 0;");
    due("the rule holds him", x.other(3, 0, 0), 5);
    due("without rules", x.other(4, 0, 0), 9);
    x.pass(0, 0);
    due("not by hand", x.count(8), 2);
    due("sets, not by hand", x.other(1, 0, 1), 9);
    x = after(13, "clock a 5;person p 9 takes;round p a 12;");
    due("noon ahead of the round", x.other(8, 0, 1), 0);
  }

  private static void agreeing() {
    promise = 26;
    PassedClocks x = told("clock a 0;person p 100 takes;person q 30 sets gains 1;round p a 2;round q a 4;");
    due("no hour", x.agree(100), -1);
    x.hours(10);
    due("from 2 on", x.agree(39), 2);
    due("from 2 on", x.agree(38), 2 - 2 - 1);
    due("all", x.agree(100), 0);
    due("not at the end", x.agree(5), -1);
    due("d", x.agree(-1), -1);
    due("d", x.agree(100001), -1);
    due("d", x.agree(100000), 0);
    x.pass(0, 0);
    due("by hand, too", x.agree(5), 9);
    due("nothing is there", after(3, "").agree(5), -1);
    x = after(6, "clock a 0 gains 1;person p 0 sets;round p a 3;");
    due("in between they don't", x.agree(2), 0);
    due("in between they don't", x.agree(1), -1);
    x = after(5, "clock a 0 gains 1;person p 0 sets;round p a 3;");
    due("in between they don't", x.agree(1), 3);
  }

  private static void oftenEnough() {
    promise = 27;
    PassedClocks x = told("clock a 900 gains 5;gun a 3;");
    due("no hour", x.often(0, 0), 168);
    x.hours(400);
    due("every 10 hours", x.often(0, 45), 10);
    due("every 10 hours", x.often(0, 49), 10);
    due("every hour", x.often(0, 0), 1);
    due("every week", x.often(0, 835), 168);
    due("nearly", x.often(0, 834), 167);
    due("clock", x.often(1, 5), -1);
    due("clock", x.often(-1, 5), -1);
    due("d", x.often(0, -1), -1);
    due("d", x.often(0, 100001), -1);
    due("d", x.often(0, 100000), 168);
    x = after(6, "clock a 0 gains -5;clock b 6;");
    due("b is off", x.often(0, 5), 0);
    due("b is off by so much", x.often(0, 6), 2);
    x = after(5, "clock a 50;person p 0 takes;round p a 0;");
    due("the gun ahead of the round", x.often(0, 0), 168);
    x = after(5, "clock a 50;clock b 50;person p 0 takes;round p b 2;round p a 2;");
    due("only at the end of an hour", x.often(0, 50), 168);
    due("b stays", x.often(0, 49), 0);
    x = after(5, "clock a 0;person p 100 sets;person q 0 sets;round p a 2;round q a 2;");
    due("p is off", x.often(0, 99), 0);
    x = after(9, "clock a 0;person p 0 sets gains 10;round p a 4;");
    due("the greatest of several", x.often(0, 80), 168);
  }

  private static void fewestRight() {
    promise = 28;
    PassedClocks x = told("clock a 100;clock b 50;person p 10 sets;person q 20 sets;round p a 1;round q b 2;");
    due("no hour", x.fewest(100, 0), 0);
    due("no hour", x.fewest(90, 1), 0);
    due("no hour", x.fewest(89, 0), -2);
    x.hours(5);
    due("none", x.fewest(10, 0), 0);
    due("which none", x.fewest(10, 1), 0);
    due("two", x.fewest(9, 0), 2);
    due("which two", x.fewest(9, 1), 3);
    due("d", x.fewest(-1, 0), -1);
    due("d", x.fewest(100001, 0), -1);
    due("what", x.fewest(5, 2), -1);
    due("what", x.fewest(5, -1), -1);
    x = after(5, "clock a 100;person p 10 takes;person q 20 takes if 0;person r 30 takes;round p a 1;round q a 2;round r a 3;");
    due("as they are", x.fewest(80, 1), 0);
    due("p, whom q does not follow", x.fewest(20, 1), 1);
    due("p and q", x.fewest(19, 1), 3);
    x = after(5, "clock a 100;person p 0 takes;person q 0 takes;round p a 1;round q a 1;round p a 2;round q a 2;");
    due("they agree", x.fewest(0, 0), 0);
    x = after(5, "clock a 100;person p 1 takes if 0;person q 0 sets if 0;round p a 1;round q a 1;");
    due("one of two", x.fewest(1, 0), 1);
    due("the first", x.fewest(1, 1), 1);
    due("of 0", x.fewest(0, 1), 1);
    x = after(2, "clock a 100;");
    due("nobody is there", x.fewest(0, 1), 0);
    x = after(2, "clock a 100;clock b 0;");
    due("no set", x.fewest(99, 1), -2);
  }

  private static void purposes() {
    promise = 29;
    PassedClocks x = told("clock a 0 gains 5;person p 100 sets;round p a 4;");
    due("no hour", x.purpose(0, 0, 0, true, 0), NO);
    x.hours(10);
    due("the round at 4 hides all ahead; behind 4 the later the less gain", x.purpose(0, 0, 0, true, 1), 125);
    due("the first of them", x.purpose(0, 0, 0, true, 0), 0);
    due("least", x.purpose(0, 0, 0, false, 1), 100);
    due("least in the last hour", x.purpose(0, 0, 0, false, 0), 9);
    due("the watch is always 100", x.purpose(0, 0, 1, false, 0), 0);
    due("the watch", x.purpose(0, 0, 1, false, 1), 100);
    due("what", x.purpose(0, 0, 0, true, 2), NO);
    due("what", x.purpose(0, 0, 0, true, -1), NO);
    due("person", x.purpose(1, 0, 0, true, 0), NO);
    due("clock", x.purpose(0, 1, 0, true, 0), NO);
    due("thing", x.purpose(0, 0, 2, true, 0), NO);
    due("thing", x.purpose(0, 0, -1, true, 0), NO);
    x.pass(0, 0);
    due("not by hand", x.purpose(0, 0, 0, true, 1), 125);
    x.hours(1);
    due("an hour on", x.purpose(0, 0, 0, true, 1), 130);
    text(x, "clock a 0 gains 5;person p 50 sets;round p a 4;");
    x.hours(11);
    due("of another text", x.purpose(0, 0, 0, true, 1), 80);
    x = after(6, "clock a 0;person p 100 takes;person q 7 sets;round q a 3;");
    due("behind all rounds of the hour", x.purpose(0, 0, 1, true, 0), 3);
    due("he takes 7", x.purpose(0, 0, 1, true, 1), 7);
    due("ahead of it he takes 0", x.purpose(0, 0, 1, false, 0), 0);
    due("q could himself", x.purpose(1, 0, 0, true, 0), 0);
    due("and then p", x.purpose(0, 0, 1, true, 0), 3);
  }

  private static void waiting() {
    promise = 30;
    PassedClocks x = after(2, "clock a 5;person p -40 takes;person q 60 sets gains 1;");
    due("q waits", x.waits(1, 0), 101);
    due("p does", x.waits(0, 1), -101);
    due("himself", x.waits(0, 0), 0);
    due("no such", x.waits(0, 2), NO);
    due("no such", x.waits(2, 0), NO);
    due("no such", x.waits(-1, 0), NO);
    x.pass(0, 0);
    due("by hand, too", x.waits(1, 0), 56);
  }

  private static void images() {
    promise = 31;
    PassedClocks x = after(3, "clock a 90 gains 3;person p 0 middle 3;round p a 1;round p a 5;");
    due("none yet", x.back(), -1);
    due("keep", x.keep(), 3);
    promise = 32;
    x.reading(0, 0, 5, 9);
    x.pass(0, 0);
    due("changed", x.off(1), 96);
    due("changed in the past", x.was(1, 2), 96);
    x.hours(10);
    x.known(0);
    due("back", x.back(), 3);
    due("off", x.off(1), 93);
    due("off of the clock", x.off(0), 96);
    due("in the past", x.was(1, 2), 93);
    due("spread in the past", x.spread(2), 3);
    due("not gone by again", x.was(1, 3), NO);
    due("passings", x.count(8), 1);
    due("passed", x.now(0, 1), 1);
    due("kept", x.now(0, 2), 1);
    due("last", x.now(0, 0), 93);
    due("readings stay", x.count(4), 1);
    due("known stays", x.count(5), 0);
    x.hours(3);
    due("it goes on as at first", x.was(1, 5), 93 + 12);
    due("back again", x.back(), 3);
    x.hours(2);
    due("keep another", x.keep(), 5);
    x.hours(2);
    due("back to it", x.back(), 5);
    x.pass(0, 0);
    due("back to it", x.back(), 5);
    due("passed", x.now(0, 1), 1);
    text(x, "clock a 1;");
    due("none then", x.back(), -1);
    due("keep at 0", x.keep(), 0);
    x.hours(4);
    due("back to 0", x.back(), 0);
    due("no hour", x.was(0, 0), NO);
  }

  private static void counts() {
    promise = 33;
    PassedClocks x = after(2, "clock a 1;clock b 1;person p 1 sets if ahead+1>0;round p a 0;round p b 1;round p b 2;gun a 1;person q 0 sets;person r 0 takes if not (1);");
    x.reading(0, 0, 0, 0);
    x.reading(0, 0, 0, 0);
    x.known(1);
    x.pass(1, 1);
    int[] due = {2, 3, 3, 1, 2, 1, 2, 7, 3, -1};
    for (int i = 0; i < due.length; i++) due("count(" + i + ")", x.count(i), due[i]);
    due("count(-1)", x.count(-1), -1);
  }
}
