import java.util.List;

/** Every sentence of the document on hours and passings ('Terms' ==== 2. and 4., promises 9 to 16), with its boundary cases. */
public final class HourSentencesTest {
  private static final int NO = Sentences.NO;
  private static final long ERROR = Sentences.ERROR;
  private static final int[] WILD = {-1, -2, Integer.MIN_VALUE, Integer.MAX_VALUE};
  private static final Sentences doc = new Sentences();

  public static void main(String[] args) {
    doc.section("Terms 2");
    order();
    whetherDone();
    customs();
    middles();
    limit();
    names();
    values();
    doc.section("Terms 4");
    hands();
    rowsTold();
    waiting();
    imagesKept();
    hours();
    offs();
    nows();
    past();
    passes();
    rows();
    rules();
    doc.end(List.of("Terms 2", "Terms 4", "Promise 9", "Promise 10", "Promise 11", "Promise 12", "Promise 13", "Promise 14",
        "Promise 15", "Promise 16"));
  }

  private static void order() {
    doc.says("An HOUR h of 0 .. 1999, in this order: each clock and watch is OFF by its GAIN more (not in HOUR 0);");
    PassedClocks x = doc.after(2000, "clock a 100 gains 7;person p -50 sets gains -2;clock b 5;");
    doc.due("hour 0", x.was(0, 0), 100);
    doc.due("the watch in hour 0", x.was(2, 0), -50);
    doc.due("hour 1", x.was(0, 1), 107);
    doc.due("the watch in hour 1", x.was(2, 1), -52);
    doc.due("hour 1999", x.was(0, 1999), 100 + 7 * 1999);
    doc.due("the watch in hour 1999", x.was(2, 1999), -50 - 2 * 1999);
    doc.due("no gain", x.was(1, 1999), 5);
    doc.due("no hour 2000", x.hours(1), -1);
    x = doc.after(2000, "clock a -36000 gains -600;person p 36000 sets gains 600;");
    doc.due("the least", x.off(0), -36000 - 600 * 1999);
    doc.due("the greatest", x.off(1), 36000 + 600 * 1999);
    doc.says("each GUN whose hour is h modulo 168: its CLOCK is OFF 0;");
    x = doc.after(2000, "clock a 100 gains 10;gun a 5;clock b 1 gains 1;gun b 0;clock c 1 gains 1;gun c 151;");
    doc.due("ahead of the gun", x.was(0, 4), 140);
    doc.due("the gun behind the gain", x.was(0, 5), 0);
    doc.due("behind it", x.was(0, 6), 10);
    doc.due("an hour ahead of the next", x.was(0, 172), 1670);
    doc.due("a week on", x.was(0, 173), 0);
    doc.due("hour 0", x.was(1, 0), 0);
    doc.due("hour 167", x.was(1, 167), 167);
    doc.due("hour 168", x.was(1, 168), 0);
    doc.due("hour 1998", x.was(2, 1998), 167);
    doc.due("hour 1999 is 151 of its week", x.was(2, 1999), 0);
    x = doc.after(168, "clock a 9;clock b 9;gun b 167;gun b 167;");
    doc.due("two at once", x.was(1, 167), 0);
    doc.due("its own clock alone", x.was(0, 167), 9);
    doc.says("by numbers each ROUND whose hour it is: the PERSON PASSES the CLOCK.");
    x = doc.after(5, "clock a 0 gains 10;person p 1000 takes gains 1;round p a 3;gun a 3;");
    doc.due("ahead of it", x.was(1, 2), 1002);
    doc.due("gain, gun, then round", x.was(1, 3), 0);
    doc.due("then the gain", x.was(1, 4), 1);
    x = doc.after(3, "clock a 100;clock b 0;person p 30 takes;person q 5 sets;round p b 2;round p a 2;round q a 2;");
    doc.due("p passes b, then a", x.off(2), 100);
    doc.due("then q passes a", x.off(0), 5);
    x = doc.after(3, "clock a 100;clock b 0;person p 30 takes;person q 5 sets;round q a 2;round p a 2;round p b 2;");
    doc.due("the other way round", x.off(2), 0);
    doc.due("LAST of b", x.now(0, 0), -5);
    x = doc.after(2000, "clock a 0;person p 0 sets;round p a 151;round p a 0;round p a 167;");
    doc.due("12 times, 12 times, 11 times", x.count(8), 35);
    x = doc.after(1, "clock a 100;person p 30 sets;round p a 0;");
    doc.due("in hour 0", x.was(0, 0), 30);
    x = doc.after(9, "clock a 1;clock b 2;clock c 3;person p 70 takes;round p c 8;round p b 4;round p a 2;gun c 6;gun b 5;");
    doc.due("rounds not told by hours: ahead of all", x.was(3, 1), 70);
    doc.due("rounds not told by hours: a", x.was(3, 2), 1);
    doc.due("rounds not told by hours: b", x.was(3, 4), 2);
    doc.due("guns not told by hours: b", x.was(1, 5), 0);
    doc.due("guns not told by hours: c", x.was(2, 5), 3);
    doc.due("rounds not told by hours: c", x.was(3, 8), 0);
    doc.due("all twelve in one hour", doc.after(1, "clock a 9;person p 3 sets;" + "round p a 0;".repeat(12)).now(0, 1), 12);
    doc.says("SPREAD: of all clocks and watches the most OFF less the least.");
    x = doc.after(2, "clock a -36000 gains -600;clock b 7;person p 5 sets;person q 36000 sets gains 600;");
    doc.due("of four", x.spread(0), 72000);
    doc.due("of four, an hour on", x.spread(1), 73200);
    doc.due("of one clock", doc.after(1, "clock a 9;").spread(0), 0);
    doc.due("of one watch", doc.after(1, "person p -9 sets;").spread(0), 0);
    doc.due("of two below 0", doc.after(1, "clock a -9;person p -5 sets;").spread(0), 4);
    doc.due("of two above 0", doc.after(1, "clock a 9;person p 5 sets;").spread(0), 4);
  }

  private static void done(String rule, int off) {
    doc.due("clock after \"" + rule + "\"", doc.after(1, "clock a 30;person p 100 sets" + rule + ";round p a 0;").off(0), off);
  }

  private static void whetherDone() {
    doc.says("To PASS: AHEAD is what the CLOCK is OFF less what the watch is.");
    doc.due("30 - 100", doc.after(1, "clock a 30;person p 100 sets;round p a 0;").now(0, 0), -70);
    doc.due("100 - 30", doc.after(1, "clock a 100;person p 30 takes;round p a 0;").now(0, 0), 70);
    doc.due("the most at first", doc.after(1, "clock a 36000;person p -36000 takes;round p a 0;").now(0, 0), 72000);
    doc.says("If there is no rule, or E isn't 0 (ERROR: it is), the CUSTOM is done:");
    done("", 100);
    done(" if 1", 100);
    done(" if 99999", 100);
    done(" if 0-1", 100);
    done(" if 0", 30);
    done(" if 1-1", 30);
    done(" if 1/0", 30);
    done(" if not 1/0", 30);
    done(" if 1 or 1/0", 30);
    done(" if 10000*10000*10000", 100);
    done(" if 10000*10000*10000+1", 30);
    done(" if 0-10000*10000*10000", 100);
    done(" if 0-10000*10000*10000-1", 30);
    done(" if ahead=0-70", 100);
    done(" if 1/(ahead+70)", 30);
    done(" if last=0 and passed=0 and hour=0 and day=0", 100);
  }

  private static PassedClocks passed(String clock, String watch) {
    return doc.after(1, "clock a " + clock + ";person p " + watch + ";round p a 0;");
  }

  private static void customs() {
    doc.says("sets: the CLOCK is OFF as the watch;");
    PassedClocks x = passed("36000", "-36000 sets");
    doc.due("the clock", x.off(0), -36000);
    doc.due("the watch", x.off(1), -36000);
    doc.says("takes: the watch as the CLOCK;");
    x = passed("36000", "-36000 takes");
    doc.due("the clock", x.off(0), 36000);
    doc.due("the watch", x.off(1), 36000);
    doc.says("half: both as the middle between, cut downwards;");
    int[][] halves = {{7, 0, 3}, {0, 7, 3}, {-7, 0, -4}, {0, -7, -4}, {-4, 1, -2}, {4, -1, 1}, {-1, 0, -1}, {1, 0, 0}, {5, 5, 5},
      {-5, -5, -5}, {-5, -6, -6}, {36000, -36000, 0}, {36000, -35999, 0}, {35999, -36000, -1}};
    for (int[] half : halves) {
      x = passed("" + half[0], half[1] + " half");
      doc.due("the clock of " + half[0] + ", " + half[1], x.off(0), half[2]);
      doc.due("the watch of " + half[0] + ", " + half[1], x.off(1), half[2]);
    }
    doc.says("part: the CLOCK goes by N times AHEAD by M, cut towards 0, towards the watch;");
    int[][] parts = {{10, 0, 1, 3, 7}, {-10, 0, 1, 3, -7}, {0, 10, 1, 3, 3}, {0, -10, 1, 3, -3}, {59, 0, 1, 60, 59}, {60, 0, 1, 60, 59},
      {-59, 0, 1, 60, -59}, {36000, -36000, 60, 60, -36000}, {36000, -36000, 59, 60, -34800}, {9, 4, 1, 1, 4}, {11, 0, 2, 3, 4}, {5, 5, 1, 2, 5}};
    for (int[] part : parts) {
      x = passed("" + part[0], part[1] + " part " + part[2] + " " + part[3]);
      doc.due("the clock of " + part[0] + ", " + part[1] + " by " + part[2] + " of " + part[3], x.off(0), part[4]);
      doc.due("the watch stays", x.off(1), part[1]);
    }
  }

  private static void middles() {
    doc.says("middle: AHEAD is kept as the latest of N at most; the watch goes ahead by the middle of those kept"
        + " (by size; of an even number the lower one of two).");
    PassedClocks x = doc.after(1, "clock a 100;clock b 0;clock c -60;person p 0 middle 3;");
    x.pass(0, 0);
    doc.due("of 100", x.off(3), 100);
    x.pass(0, 1);
    doc.due("of 100, -100 the lower one", x.off(3), 0);
    x.pass(0, 2);
    doc.due("of 100, -100, -60", x.off(3), -60);
    doc.due("three are kept", x.now(0, 2), 3);
    x.pass(0, 0);
    doc.due("of -100, -60, 160: the first is kept no more", x.off(3), -120);
    doc.due("three are kept", x.now(0, 2), 3);
    doc.due("the clocks stay", x.off(0), 100);
    x = doc.after(1, "clock a 5;clock b 1;clock c 9;clock d 3;person p 0 middle 4;");
    x.pass(0, 0);
    x.pass(0, 1);
    doc.due("5, -4", x.off(4), 1);
    x.pass(0, 2);
    doc.due("5, -4, 8", x.off(4), 6);
    x.pass(0, 3);
    doc.due("5, -4, 8, -3: the second of four", x.off(4), 3);
    x.pass(0, 2);
    doc.due("-4, 8, -3, 6", x.off(4), 0);
    x = doc.after(1, "clock a 100;clock b 40;person p 0 middle 1;");
    x.pass(0, 0);
    x.pass(0, 1);
    doc.due("the latest alone", x.off(2), 40);
    doc.due("one is kept", x.now(0, 2), 1);
    x = doc.after(1, "clock a 100;person p 0 middle 5;");
    for (int i = 1; i < 8; i++) {
      x.pass(0, 0);
      doc.due("kept of five", x.now(0, 2), Math.min(i, 5));
    }
    x = doc.after(1, "clock a -9;clock b 1;person p 0 middle 2;");
    x.pass(0, 0);
    x.pass(0, 1);
    doc.due("-9 is lower than 10", x.off(2), -18);
    x = doc.after(1, "clock a 10;clock b 30;person p 0 sets;person q 0 sets;person r 0 sets;person s 0 middle 2;person t 5 middle 3;");
    for (int i = 0; i < 9; i++) {
      x.pass(4, i % 2);
      x.pass(3, i % 2);
    }
    doc.due("each has his own: s keeps 20, 10 at last", x.now(3, 0), 10);
    doc.due("each has his own: s's watch", x.off(5), 10);
    doc.due("each has his own: t keeps -20, 20, -5 at last", x.now(4, 0), -5);
    doc.due("each has his own: t's watch", x.off(6), 10);
    doc.due("s keeps two", x.now(3, 2), 2);
    doc.due("t keeps three", x.now(4, 2), 3);
    doc.says("Then LAST is AHEAD (0 at first), PASSED one more (both also if the CUSTOM isn't done).");
    x = doc.told("clock a 90;person p 0 middle 3 if 0;person q 20 sets if last;round p a 1;round q a 1;round q a 2;");
    doc.due("LAST at first", x.now(0, 0), 0);
    doc.due("PASSED at first", x.now(0, 1), 0);
    x.hours(2);
    doc.due("LAST, not done", x.now(0, 0), 90);
    doc.due("PASSED, not done", x.now(0, 1), 1);
    doc.due("nothing kept, not done", x.now(0, 2), 0);
    doc.due("LAST was 0", x.off(0), 90);
    doc.due("LAST of q", x.now(1, 0), 70);
    x.hours(1);
    doc.due("LAST was 70", x.off(0), 20);
    doc.due("LAST is as it was ahead of the custom", x.now(1, 0), 70);
    doc.due("PASSED of q", x.now(1, 1), 2);
  }

  /** Passings by hand drive the watch of the first person, who passes two clocks far apart, up or down to the limit. */
  private static PassedClocks driven(String way, String person) {
    PassedClocks x = doc.after(1900, "clock a 36000 gains 600;clock b -36000 gains -600;person p " + person + ";person q 0 sets;");
    for (int i = 0; i < way.length(); i++) x.pass(0, way.charAt(i) - 'a');
    return x;
  }

  private static void limit() {
    doc.says("What is OFF beyond 1000000000 (or below, likewise) is that, each time it changes.");
    PassedClocks x = driven(PromisesTest.UP, "-18990 middle 5 gains 10");
    doc.due("not beyond", x.off(2), 1000000000);
    x.hours(3);
    doc.due("its gain changes nothing", x.off(2), 1000000000);
    doc.due("nor was it beyond", x.was(2, 1900), 1000000000);
    x = driven(PromisesTest.UP, "18990 middle 5 gains -10");
    doc.due("not beyond", x.off(2), 1000000000);
    x.hours(1);
    doc.due("it goes down from there", x.off(2), 999999990);
    x = driven(PromisesTest.DOWN, "18990 middle 5 gains -10");
    doc.due("not below", x.off(2), -1000000000);
    x.hours(3);
    doc.due("its gain changes nothing", x.off(2), -1000000000);
    doc.due("nor was it below", x.was(2, 1900), -1000000000);
    x = driven(PromisesTest.DOWN, "-18990 middle 5 gains 10");
    doc.due("not below", x.off(2), -1000000000);
    x.hours(1);
    doc.due("it goes up from there", x.off(2), -999999990);
  }

  private static long value(String e, int ahead, int last, int passed, int hour) {
    return doc.told("person p 0 sets if " + e + ";").rule(0, ahead, last, passed, hour);
  }

  private static long value(String e) {
    return value(e, 0, 0, 0, 0);
  }

  private static void names() {
    doc.says("NAMES: ahead; last; passed; hour: of the day (h modulo 24); day: how often 24 goes into h, modulo 7.");
    doc.due("ahead", value("ahead", -5, 1, 2, 3), -5);
    doc.due("last", value("last", 1, -5, 2, 3), -5);
    doc.due("passed", value("passed", 1, 2, 5, 3), 5);
    int[][] hours = {{0, 0, 0}, {23, 23, 0}, {24, 0, 1}, {25, 1, 1}, {167, 23, 6}, {168, 0, 0}, {1999, 7, 6}};
    for (int[] hour : hours) {
      doc.due("hour of " + hour[0], value("hour", 0, 0, 0, hour[0]), hour[1]);
      doc.due("day of " + hour[0], value("day", 0, 0, 0, hour[0]), hour[2]);
    }
    PassedClocks x = doc.after(200, "clock a 9;person p 3 sets if day=6 and hour=23;round p a 166;round p a 167;");
    doc.due("hour 166", x.was(0, 166), 9);
    doc.due("hour 167", x.was(0, 167), 3);
    x = doc.after(200, "clock a 9 gains 1;person p 3 sets if day=0 and hour=0;round p a 0;round p a 1;round p a 24;");
    doc.due("hour 0", x.was(0, 0), 3);
    doc.due("hour 1", x.was(0, 1), 4);
    doc.due("hour 24", x.was(0, 24), 27);
    doc.due("hour 168", x.was(0, 168), 3);
    x = doc.after(1, "clock a 9;clock b 5;person p 3 takes if passed=1 and last=6 and ahead=2;");
    doc.due("not yet", x.pass(0, 0), 9);
    doc.due("now", x.pass(0, 1), 5);
    doc.due("taken", x.off(2), 5);
  }

  private static void values() {
    doc.says("VALUES are longs; comparisons, and, or, not are 1 or 0 (what isn't 0 is as 1, both sides are worked out), / is cut towards 0;");
    doc.due("beyond an int", value("99999*99999"), 9999800001L);
    doc.due("below an int", value("0-99999*99999"), -9999800001L);
    doc.due("compared beyond an int", value("99999*99999>65536*65536"), 1);
    doc.due("compared beyond an int", value("65536*65536=0"), 0);
    String[] signs = {"<", "<=", "=", ">", "<>", ">="};
    int[][] due = {{1, 1, 0, 0, 1, 0}, {0, 1, 1, 0, 0, 1}, {0, 0, 0, 1, 1, 1}};
    for (int i = 0; i < signs.length; i++) {
      doc.due("1" + signs[i] + "2", value("1" + signs[i] + "2"), due[0][i]);
      doc.due("2" + signs[i] + "2", value("2" + signs[i] + "2"), due[1][i]);
      doc.due("3" + signs[i] + "2", value("3" + signs[i] + "2"), due[2][i]);
    }
    doc.due("5 and 7", value("5 and 7"), 1);
    doc.due("5 and 0", value("5 and 0"), 0);
    doc.due("0 and 5", value("0 and 5"), 0);
    doc.due("5 or 0", value("5 or 0"), 1);
    doc.due("0 or 5", value("0 or 5"), 1);
    doc.due("5 or 7", value("5 or 7"), 1);
    doc.due("0 or 0", value("0 or 0"), 0);
    doc.due("below 0 and", value("(0-5) and 2"), 1);
    doc.due("not 5", value("not 5"), 0);
    doc.due("not 0", value("not 0"), 1);
    doc.due("not below 0", value("not (0-5)"), 0);
    doc.due("0 and, the other side", value("0 and 1/0"), ERROR);
    doc.due("1 or, the other side", value("1 or 1/0"), ERROR);
    doc.due("the first side", value("1/0 or 1"), ERROR);
    doc.due("-7/2", value("ahead/last", -7, 2, 0, 0), -3);
    doc.due("7/-2", value("ahead/last", 7, -2, 0, 0), -3);
    doc.due("-7/-2", value("ahead/last", -7, -2, 0, 0), 3);
    doc.due("7/2", value("ahead/last", 7, 2, 0, 0), 3);
    doc.due("0/5", value("0/5"), 0);
    doc.says("ERROR: / by 0, a value above 10 to the 12 or below 0 by more than that.");
    String most = "10000*10000*10000";
    doc.due("1/0", value("1/0"), ERROR);
    doc.due("0/0", value("0/0"), ERROR);
    doc.due("/ by what is 0", value("1/(ahead-5)", 5, 0, 0, 0), ERROR);
    doc.due("10 to the 12", value(most), 1000000000000L);
    doc.due("one above", value(most + "+1"), ERROR);
    doc.due("one above by -", value(most + "-ahead", -1, 0, 0, 0), ERROR);
    doc.due("10 to the 12 below 0", value("0-" + most), -1000000000000L);
    doc.due("one below", value("0-" + most + "-1"), ERROR);
    doc.due("one below by +", value("0-" + most + "+ahead", -1, 0, 0, 0), ERROR);
    doc.due("above by *", value(most + "*2"), ERROR);
    doc.due("below by *", value(most + "*ahead", -2, 0, 0, 0), ERROR);
    doc.due("times -1", value(most + "*ahead", -1, 0, 0, 0), -1000000000000L);
    doc.due("times 0", value(most + "*0"), 0);
    doc.due("0 times", value("0*(" + most + ")"), 0);
    doc.due("on the way", value(most + "+1-1"), ERROR);
    doc.due("on the way, then times 0", value("(" + most + "+1)*0"), ERROR);
    doc.due("on the way, then compared", value(most + "+1>0"), ERROR);
    doc.due("on the way, then not", value("not " + most + "+1"), ERROR);
    doc.due("a product beyond a long", value("(" + most + ")*(" + most + ")"), ERROR);
    doc.due("a product that a long would make small", value("(99999*65536)*(65536*65536)"), ERROR);
    doc.due("a product that a long would make 0", value("(65536*65536)*(65536*65536)"), ERROR);
    doc.due("another one", value("(4*65536*65536)*(65536*16384)"), ERROR);
    doc.due("below 0 times below 0", value("(0-" + most + ")*(0-1)"), 1000000000000L);
  }

  private static void hands() {
    doc.says("By HAND a PERSON PASSES a CLOCK now (in the HOUR that went by last): done once.");
    PassedClocks x = doc.after(26, "clock a 90 gains 1;person p 10 sets if hour=1 and day=1;");
    doc.due("in hour 25", x.pass(0, 0), 10);
    doc.due("of that hour", x.was(0, 25), 10);
    doc.due("the gain of the next one", x.hours(1), 27);
    doc.due("behind it", x.off(0), 11);
    doc.goTo(x, 400);
    doc.due("once", x.count(8), 1);
    doc.due("not a week on", x.was(0, 193), 10 + 168);
    x = doc.after(2000, "clock a 90;person p 10 sets if hour=7 and day=6;");
    doc.due("in hour 1999", x.pass(0, 0), 10);
  }

  private static void rowsTold() {
    doc.says("A ROW: up to 12 passings told (four bits each for PERSON and CLOCK, the first lowest), all now, one behind the other:"
        + " what something would be OFF then.");
    PassedClocks x = doc.after(8, "clock a 100;clock b 40;person p 10 takes if hour=7;person q 0 half;");
    doc.due("p a, p b", x.row(2, 0x1000, 0, 2), 40);
    doc.due("p b, p a", x.row(2, 0x0010, 0, 2), 100);
    doc.due("q a, q b, p b", x.row(3, 0x101101, 0, 2), 45);
    doc.due("q twice", x.row(2, 0x0111, 0, 0), 60);
    doc.due("nothing is made", x.off(2), 10);
    doc.due("no passing", x.count(8), 0);
    doc.due("nothing is kept", x.now(0, 1), 0);
    doc.due("nor was anything", x.was(0, 7), 100);
  }

  private static void waiting() {
    doc.says("WAITS: two PEOPLE meet by their watches: how many seconds the first waits (below 0: the other): what he is OFF more.");
    PassedClocks x = doc.after(2, "person p -40 takes;person q 60 sets gains 1;");
    doc.due("the first waits", x.waits(1, 0), 101);
    doc.due("the other waits", x.waits(0, 1), -101);
    doc.due("both are there", doc.told("person p 5 sets;person q 5 sets;").waits(0, 1), 0);
  }

  private static void imagesKept() {
    doc.says("IMAGE: all that went by, kept and brought back.");
    PassedClocks x = doc.after(3, "clock a 90 gains 3;person p 0 middle 3;round p a 1;round p a 5;");
    x.keep();
    x.pass(0, 0);
    x.hours(7);
    x.pass(0, 0);
    x.back();
    doc.due("hour", x.count(6), 3);
    doc.due("passings", x.count(8), 1);
    doc.due("clock", x.off(0), 96);
    doc.due("watch", x.off(1), 93);
    doc.due("last", x.now(0, 0), 93);
    doc.due("passed", x.now(0, 1), 1);
    doc.due("kept", x.now(0, 2), 1);
    doc.due("the past", x.was(1, 2), 93);
    doc.due("spread of the past", x.spread(2), 3);
    doc.due("what has not gone by", x.was(1, 3), NO);
    x.hours(3);
    doc.due("it goes by as it did: 12 is the lower of 93, 12", x.off(1), 105);
    doc.due("with as many passings", x.count(8), 2);
    x = doc.after(1, "clock a 100;clock b 10;person p 0 sets;person q 0 middle 3;");
    x.pass(1, 0);
    x.pass(1, 1);
    x.pass(1, 0);
    doc.due("100, -90, 90", x.off(3), 100);
    x.keep();
    for (int i = 0; i < 3; i++) x.pass(1, 1);
    x.back();
    x.pass(1, 1);
    doc.due("-90, 90, -90 again", x.off(3), 10);
  }

  private static void hours() {
    doc.section("Promise 9");
    doc.says("So many HOURS (0 .. 500) more go by: which one is next;");
    PassedClocks x = doc.told("clock a 0 gains 1;");
    doc.due("hours(0)", x.hours(0), 0);
    doc.due("none went by", x.was(0, 0), NO);
    doc.due("hours(1)", x.hours(1), 1);
    doc.due("hours(500)", x.hours(500), 501);
    doc.due("all went by", x.off(0), 500);
    doc.due("hours(499)", x.hours(499), 1000);
    doc.due("hours(500)", x.hours(500), 1500);
    doc.due("up to 2000", x.hours(500), 2000);
    doc.due("hours(0) then", x.hours(0), 2000);
    doc.due("the last one", x.was(0, 1999), 1999);
    doc.says("NONE, and none does: no such number, beyond 2000.");
    doc.due("a 2001st", x.hours(1), -1);
    doc.due("none does", x.count(6), 2000);
    x = doc.told("clock a 0 gains 1;");
    for (int n : new int[] {-1, 501, Integer.MAX_VALUE, Integer.MIN_VALUE}) doc.due("hours(" + n + ")", x.hours(n), -1);
    doc.due("none does", x.count(6), 0);
    doc.goTo(x, 1600);
    doc.due("one too many", x.hours(401), -1);
    doc.due("none does", x.count(6), 1600);
    doc.due("nothing changes", x.off(0), 1599);
    doc.due("no such number there", x.hours(Integer.MAX_VALUE), -1);
    doc.due("just so many", x.hours(400), 2000);
  }

  private static void offs() {
    doc.section("Promise 10");
    doc.says("What a thing (CLOCKS first, then PEOPLE's watches, numbered on) is OFF now.");
    PassedClocks x = doc.told("person p 3 sets gains 1;clock a 1;person q 4 sets;clock b 2;");
    for (int thing = 0; thing < 4; thing++) doc.due("off(" + thing + ") ahead of all hours", x.off(thing), thing + 1);
    x.hours(3);
    doc.due("off(2) now", x.off(2), 5);
    x.pass(0, 0);
    doc.due("by hand, too", x.off(0), 5);
    doc.due("a watch without clocks", doc.told("person p 3 sets;").off(0), 3);
    doc.says("Integer.MIN_VALUE: no such one.");
    for (int thing : WILD) doc.due("off(" + thing + ")", x.off(thing), NO);
    doc.due("off(4)", x.off(4), NO);
    doc.due("off(1) of one clock", doc.told("clock a 1;").off(1), NO);
    doc.due("off(5) of one of each", doc.told("clock a 1;person p 1 sets;").off(5), NO);
  }

  private static void nows() {
    doc.section("Promise 11");
    doc.says("Of a PERSON now, what 0 LAST, 1 PASSED, 2 how many are kept for the middle.");
    PassedClocks x = doc.told("clock a 100;person p 10 takes;person q 0 middle 2;round p a 1;round q a 1;round q a 2;round q a 3;");
    for (int what = 0; what < 3; what++) doc.due("at first", x.now(1, what), 0);
    x.hours(2);
    doc.due("LAST", x.now(0, 0), 90);
    doc.due("PASSED", x.now(0, 1), 1);
    doc.due("none kept by takes", x.now(0, 2), 0);
    doc.due("one kept", x.now(1, 2), 1);
    x.hours(2);
    doc.due("two kept of three", x.now(1, 2), 2);
    doc.due("PASSED three times", x.now(1, 1), 3);
    doc.due("LAST", x.now(1, 0), 0);
    x.pass(0, 0);
    doc.due("LAST by hand", x.now(0, 0), 0);
    doc.due("PASSED by hand", x.now(0, 1), 2);
    doc.says("Integer.MIN_VALUE: no such ones.");
    for (int person : WILD) doc.due("now(" + person + ", 0)", x.now(person, 0), NO);
    for (int what : WILD) doc.due("now(0, " + what + ")", x.now(0, what), NO);
    doc.due("now(2, 0)", x.now(2, 0), NO);
    doc.due("now(0, 3)", x.now(0, 3), NO);
    doc.due("of nobody", doc.told("clock a 1;").now(0, 0), NO);
  }

  private static void past() {
    doc.section("Promise 12");
    doc.says("What a thing was OFF at the end of an HOUR.");
    PassedClocks x = doc.after(4, "clock a 7 gains 2;person p 50 sets;round p a 2;round p a 3;gun a 3;");
    int[] was = {7, 9, 50, 50};
    for (int hour = 0; hour < 4; hour++) doc.due("was(0, " + hour + ")", x.was(0, hour), was[hour]);
    doc.due("the watch", x.was(1, 0), 50);
    doc.says("Integer.MIN_VALUE: no such one, it hasn't gone by.");
    for (int wild : WILD) {
      doc.due("was(" + wild + ", 0)", x.was(wild, 0), NO);
      doc.due("was(0, " + wild + ")", x.was(0, wild), NO);
    }
    doc.due("was(2, 0)", x.was(2, 0), NO);
    doc.due("was(0, 4)", x.was(0, 4), NO);
    doc.due("was(0, 1999)", x.was(0, 1999), NO);
    doc.due("was(0, 2000)", x.was(0, 2000), NO);
    doc.due("no hour", doc.told("clock a 7;").was(0, 0), NO);
    x.keep();
    x.hours(1);
    doc.due("gone by", x.was(0, 4), 52);
    x.back();
    doc.due("not gone by again", x.was(0, 4), NO);
    doc.due("hour 2000 of 2000", doc.after(2000, "clock a 7;").was(0, 2000), NO);
    doc.section("Promise 13");
    doc.says("SPREAD at the end of an HOUR;");
    x = doc.after(4, "clock a 7 gains 2;person p 50 sets;round p a 2;");
    int[] spread = {43, 41, 0, 2};
    for (int hour = 0; hour < 4; hour++) doc.due("spread(" + hour + ")", x.spread(hour), spread[hour]);
    x.pass(0, 0);
    doc.due("by hand, too", x.spread(3), 0);
    doc.due("not ahead of it", x.spread(1), 41);
    doc.says("NONE: nothing is there, it hasn't gone by.");
    for (int wild : WILD) doc.due("spread(" + wild + ")", x.spread(wild), -1);
    doc.due("spread(4)", x.spread(4), -1);
    doc.due("spread(2000)", x.spread(2000), -1);
    doc.due("nothing is there", doc.after(3, "").spread(1), -1);
    doc.due("no hour", doc.told("clock a 7;").spread(0), -1);
    doc.due("hour 2000 of 2000", doc.after(2000, "clock a 7;").spread(2000), -1);
  }

  private static void passes() {
    doc.section("Promise 14");
    doc.says("By HAND: what the CLOCK is OFF then.");
    PassedClocks x = doc.after(2, "clock a 100;clock b 40;person p 10 takes;person q 5 sets;person r 8 half if 0;");
    doc.due("takes", x.pass(0, 0), 100);
    doc.due("the watch", x.off(2), 100);
    doc.due("sets", x.pass(1, 1), 5);
    doc.due("the past hour", x.was(1, 1), 5);
    doc.due("its spread", x.spread(1), 95);
    doc.due("the hour ahead", x.was(1, 0), 40);
    doc.due("not done", x.pass(2, 0), 100);
    doc.due("but passed", x.now(2, 1), 1);
    doc.due("passings", x.count(8), 3);
    doc.says("Integer.MIN_VALUE: no such ones, no HOUR went by.");
    for (int wild : WILD) {
      doc.due("pass(" + wild + ", 0)", x.pass(wild, 0), NO);
      doc.due("pass(0, " + wild + ")", x.pass(0, wild), NO);
    }
    doc.due("pass(3, 0)", x.pass(3, 0), NO);
    doc.due("pass(0, 2)", x.pass(0, 2), NO);
    doc.due("none of them was made", x.count(8), 3);
    x = doc.told("clock a 100;person p 10 sets;");
    doc.due("no hour", x.pass(0, 0), NO);
    doc.due("none was made", x.off(0), 100);
    doc.due("nor counted", x.now(0, 1), 0);
    x.hours(0);
    doc.due("still no hour", x.pass(0, 0), NO);
    x.hours(1);
    doc.due("one hour", x.pass(0, 0), 10);
  }

  private static void rows() {
    doc.section("Promise 15");
    doc.says("A ROW of n passings (0 .. 12; a byte each, the first lowest, the PERSON in its lower four bits, the CLOCK in the upper four):"
        + " what a thing would be OFF.");
    PassedClocks x = doc.after(1, "clock a 100;clock b 40;person p 10 takes;person q 0 sets;");
    doc.due("none: a", x.row(0, 0, 0, 0), 100);
    doc.due("none, whatever the bytes are", x.row(0, -1, -1, 2), 10);
    doc.due("p at b", x.row(1, 0x10, 0, 2), 40);
    doc.due("q at a", x.row(1, 0x01, 0, 0), 0);
    doc.due("only the first byte", x.row(1, 0xffffffffffffff10L, -1, 2), 40);
    long atB = 0x1010101010101010L;
    for (int n = 1; n <= 12; n++) {
      long low = n > 8 ? atB : atB & ~(0xffL << 8 * (n - 1));
      long high = n > 8 ? atB & ~(0xffL << 8 * (n - 9)) : -1;
      doc.due("the last of " + n + " at a", x.row(n, low, high, 2), 100);
      if (n > 1) doc.due("all but it", x.row(n - 1, low, high, 2), 40);
    }
    doc.due("the rest of high is free", x.row(12, atB, 0xffffffff10101010L, 2), 40);
    doc.due("nothing is made", x.off(2), 10);
    doc.due("p sets, tried", x.other(1, 0, 2), 10);
    doc.due("p takes in a row then", x.row(1, 0x10, 0, 2), 40);
    String ten = "clock a 0;clock b 1;clock c 2;clock d 3;clock e 4;person a 9 sets;person b 9 sets;person c 9 sets;person d 9 sets;person e 7 takes;";
    doc.due("the last of five", doc.after(1, ten).row(1, 0x44, 0, 9), 4);
    doc.says("Integer.MIN_VALUE: no such ones, no HOUR went by.");
    for (int wild : WILD) {
      doc.due("n " + wild, x.row(wild, 0, 0, 0), NO);
      doc.due("thing " + wild, x.row(1, 0, 0, wild), NO);
    }
    doc.due("n 13", x.row(13, atB, atB, 2), NO);
    doc.due("thing 4", x.row(1, 0, 0, 4), NO);
    doc.due("thing 4 of no passings", x.row(0, 0, 0, 4), NO);
    doc.due("person 2", x.row(1, 0x02, 0, 0), NO);
    doc.due("person 15", x.row(1, 0x0f, 0, 0), NO);
    doc.due("clock 2", x.row(1, 0x20, 0, 0), NO);
    doc.due("clock 15", x.row(1, 0xf0, 0, 0), NO);
    doc.due("person 5 of five", doc.after(1, ten).row(1, 0x05, 0, 9), NO);
    doc.due("clock 5 of five", doc.after(1, ten).row(1, 0x50, 0, 9), NO);
    doc.due("the eighth", x.row(8, 0x2010101010101010L, 0, 0), NO);
    doc.due("the eighth below 0", x.row(8, 0xf010101010101010L, 0, 0), NO);
    doc.due("the twelfth", x.row(12, atB, 0x02101010L, 0), NO);
    doc.due("nothing was made by those ahead of it", x.off(2), 10);
    doc.due("no hour", doc.told("clock a 100;person p 1 sets;").row(0, 0, 0, 0), NO);
    doc.due("no hour", doc.told("clock a 100;person p 1 sets;").row(1, 0, 0, 0), NO);
  }

  private static void rules() {
    doc.section("Promise 16");
    doc.says("What a PERSON's rule is by these NAMES (ahead, last -99999 .. 99999; passed 0 .. 99999; hour 0 .. 1999).");
    String all = "ahead*10000*100+last-passed*hour*day";
    doc.due("the greatest names", value(all, 99999, 99999, 99999, 1999), 99999000000L + 99999 - 99999L * 42);
    doc.due("the least names", value(all, -99999, -99999, 0, 0), -99999000000L - 99999);
    PassedClocks x = doc.told("clock a 9;person p 0 sets;person q 0 takes if ahead+1;person r 0 half if 0;");
    doc.due("of the second", x.rule(1, 7, 0, 0, 0), 8);
    doc.due("of the third, 0", x.rule(2, 7, 0, 0, 0), 0);
    x.hours(5);
    x.pass(1, 0);
    doc.due("by these names, not by those now", x.rule(1, 7, 0, 0, 0), 8);
    doc.due("no passing", x.now(1, 1), 1);
    doc.says("Long.MIN_VALUE: an ERROR, no rule, no such ones.");
    doc.due("an error", value("1/ahead", 0, 0, 0, 0), ERROR);
    doc.due("no rule", x.rule(0, 0, 0, 0, 0), ERROR);
    doc.due("no such person", x.rule(3, 0, 0, 0, 0), ERROR);
    for (int person : WILD) doc.due("person " + person, x.rule(person, 0, 0, 0, 0), ERROR);
    for (int beyond : new int[] {-100000, 100000, Integer.MIN_VALUE, Integer.MAX_VALUE}) {
      doc.due("ahead " + beyond, x.rule(1, beyond, 0, 0, 0), ERROR);
      doc.due("last " + beyond, x.rule(1, 0, beyond, 0, 0), ERROR);
    }
    for (int beyond : new int[] {-1, 100000, Integer.MIN_VALUE, Integer.MAX_VALUE}) doc.due("passed " + beyond, x.rule(1, 0, 0, beyond, 0), ERROR);
    for (int beyond : new int[] {-1, 2000, Integer.MIN_VALUE, Integer.MAX_VALUE}) doc.due("hour " + beyond, x.rule(1, 0, 0, 0, beyond), ERROR);
  }
}
