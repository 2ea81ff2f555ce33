import java.util.List;

/** Every sentence of the document on runs tried otherwise ('Terms' ==== 3., promises 17 to 33), with its boundary cases. */
public final class TriedSentencesTest {
  private static final int NO = Sentences.NO;
  private static final int[] WILD = {-1, -2, Integer.MIN_VALUE, Integer.MAX_VALUE};
  private static final String TWO = "clock a 50;person p 7 sets;person q 9 takes;round p a 1;round q a 2;";
  private static final Sentences doc = new Sentences();

  public static void main(String[] args) {
    doc.section("Terms 3");
    runs();
    moves();
    roughOnes();
    fits();
    wrongOnes();
    tries();
    agreeing();
    oftenEnough();
    fewestRight();
    purposes();
    moved();
    ends();
    readings();
    known();
    judged();
    wrong();
    ways();
    tried();
    other();
    agree();
    often();
    fewest();
    purpose();
    waits();
    images();
    count();
    doc.section("What it is");
    manyCalls();
    doc.end(List.of("Terms 3", "Promise 17", "Promise 18", "Promise 19", "Promise 20", "Promise 21", "Promise 22", "Promise 23",
        "Promise 24", "Promise 25", "Promise 26", "Promise 27", "Promise 28", "Promise 29", "Promise 30", "Promise 31", "Promise 32",
        "Promise 33"));
  }

  private static void runs() {
    doc.says("A RUN is all HOURS from 0 on up to now (those that went by), passings by hand not made, tried otherwise.");
    PassedClocks x = doc.told("clock a 50 gains 1 rough 3;person p 7 sets;round p a 4;");
    doc.due("no hour: as at first", x.other(5, 0, 0), 50);
    x.hours(4);
    doc.due("hours 0 to 3", x.other(5, 0, 0), 53);
    x.hours(1);
    doc.due("hours 0 to 4", x.other(5, 0, 0), 7);
    x = doc.after(4, "clock a 50 gains 1 rough 3;person p 7 sets;round p a 4;");
    x.pass(0, 0);
    doc.due("as it is", x.off(0), 7);
    doc.due("tried", x.other(5, 0, 0), 53);
    doc.due("tried: spread", x.tried(5, 0), 46);
    doc.due("moved", x.moved(0, 0, 5), 5);
    doc.due("ends", x.ends(0, 1), 56);
    doc.due("purpose", x.purpose(0, 0, 0, true, 1), 10);
    doc.due("fewest", x.fewest(45, 0), -2);
    x.reading(0, 3, 53, 53);
    doc.due("judged", x.judged(), -1);
    doc.due("often", x.often(0, 7), 168);
  }

  private static void moves() {
    doc.says("MOVED: how much more something is OFF now, if something (maybe itself) were OFF v more at first.");
    PassedClocks x = doc.after(3, "clock a 90;person p 0 half;round p a 1;clock b 5;");
    doc.due("of itself", x.moved(0, 0, 7), 3);
    doc.due("of itself less", x.moved(0, 0, -7), -4);
    doc.due("by the watch", x.moved(0, 2, 10), 5);
    doc.due("the watch by the clock", x.moved(2, 0, 10), 5);
    doc.due("the watch by itself", x.moved(2, 2, 10), 5);
    doc.due("by what has no part in it", x.moved(0, 1, 10), 0);
    doc.due("what has no part in it by itself", x.moved(1, 1, 10), 10);
    doc.due("no more", x.moved(0, 0, 0), 0);
    x = doc.told("clock a 36000;person p 0 sets;round p a 0;");
    doc.due("beyond what a text may tell", x.moved(0, 0, 36000), 36000);
    x.hours(1);
    doc.due("set by p", x.moved(0, 0, 36000), 0);
    doc.due("as p's watch", x.moved(0, 1, -36000), -36000);
    x = doc.after(1, "clock a 10;person p 0 sets if ahead<20;round p a 0;");
    doc.due("the rule holds p", x.moved(0, 0, 10), 20);
  }

  private static void roughOnes() {
    doc.says("ENDS: the least and the greatest that something can be OFF now, of all RUNS in which each is at first OFF"
        + " less or more by all of its rough (one of both; of those that have none as told).");
    PassedClocks x = doc.after(2, "clock a 90 rough 10;person p 0 half rough 30;round p a 1;clock b 5 rough 0;");
    doc.due("both less", x.ends(0, 0), 25);
    doc.due("both more", x.ends(0, 1), 65);
    doc.due("none: the least", x.ends(1, 0), 5);
    doc.due("none: the greatest", x.ends(1, 1), 5);
    x = doc.after(2, "clock a 0 rough 20;person p 0 middle 2 rough 20;round p a 0;round p a 1;");
    doc.due("one less, one more: -40, 0", x.ends(1, 0), -60);
    doc.due("the greatest", x.ends(1, 1), 20);
    x = doc.after(1, "clock a 0 rough 10;person p 500 sets if ahead=0-500;round p a 0;");
    doc.due("not as told", x.ends(0, 1), 10);
    x = doc.after(1, "clock a 0 rough 10;person p 500 sets if ahead=5-500;round p a 0;");
    doc.due("not by a part of it", x.ends(0, 1), 10);
    StringBuilder all = new StringBuilder();
    for (char c = 'a'; c <= 'e'; c++) all.append("clock ").append(c).append(" 0 rough 36000;person ").append(c).append(" 0 half rough 1;");
    for (char c = 'a'; c <= 'e'; c++) all.append("round a ").append(c).append(" 0;");
    x = doc.after(1, all.toString());
    int least = -1;
    int most = 1;
    for (int i = 0; i < 5; i++) {
      least = Math.floorDiv(least - 36000, 2);
      most = Math.floorDiv(most + 36000, 2);
    }
    doc.due("ten rough ones: the least", x.ends(5, 0), least);
    doc.due("ten rough ones: the greatest", x.ends(5, 1), most);
    doc.due("the tenth", x.ends(9, 1), 1);
  }

  private static void fits() {
    doc.says("READINGS, at most 30: a CLOCK or watch SHOWED OFF between two numbers at the end of an HOUR; KNOWN by the first n (all at first).");
    PassedClocks x = doc.told("clock a 0 gains 1;person p 50 takes;round p a 10;");
    doc.due("both ends hold", x.reading(0, 9, 9, 9), 0);
    doc.due("so", x.judged(), -1);
    doc.due("of a watch, behind the round", x.reading(1, 10, 10, 10), 1);
    doc.due("so", x.judged(), -1);
    doc.due("all known", x.count(5), 2);
    doc.due("too low", x.reading(0, 9, 10, 20), 2);
    doc.due("not so", x.judged(), 2);
    x.known(2);
    doc.due("by the first two", x.judged(), -1);
    doc.due("a fourth", x.reading(0, 9, 0, 8), 3);
    doc.due("still by two", x.judged(), -1);
    for (int i = 4; i < 30; i++) doc.due("reading " + i, x.reading(0, 0, 0, 0), i);
    doc.due("a 31st", x.reading(0, 0, 0, 0), -1);
    doc.due("30", x.count(4), 30);
    doc.says("FITS: a RUN (up to the latest HOUR of these, gone by or not) in which all KNOWN ones are so (any, if none is).");
    x = doc.told("clock a 0 gains 1;person p 50 takes;");
    doc.due("any", x.wrong(0), 121);
    x.reading(0, 1999, 1999, 1999);
    doc.due("not gone by", x.judged(), -1);
    doc.due("the clock as told alone", x.wrong(0), 1);
    x.reading(0, 5, 5, 64);
    x.reading(1, 0, 50, 50);
    doc.due("the latest hour is not the last reading's", x.wrong(0), 1);
    doc.due("the watch as told alone", x.wrong(1), 1);
    doc.goTo(x, 2000);
    doc.due("gone by", x.wrong(0), 1);
    x.reading(0, 0, 1, 1);
    doc.due("one that isn't so", x.wrong(0), 0);
    doc.due("nor by another's", x.wrong(1), 0);
    x.known(0);
    doc.due("any, if none is known", x.wrong(0), 121);
    doc.due("any, if none is known", x.judged(), -1);
  }

  private static void wrongOnes() {
    doc.says("WRONG: of one thing at a time, OFF otherwise at first by 60 times k (k -60 .. 60, 0 too): all with which it FITS.");
    PassedClocks x = doc.told("clock a 100;person p 40 sets;round p a 5;");
    doc.due("all ways", x.wrong(0), 121);
    doc.due("the least", x.way(0, 0), -3600);
    doc.due("0 too", x.way(0, 60), 0);
    doc.due("the greatest", x.way(0, 120), 3600);
    x.reading(0, 4, 3700, 1000000);
    doc.due("the last way alone", x.wrong(0), 1);
    doc.due("3600", x.way(0, 0), 3600);
    doc.due("not by the watch", x.wrong(1), 0);
    x = doc.told("clock a 100;person p 40 sets;round p a 5;");
    x.reading(0, 4, -1000000, -3500);
    doc.due("the first way alone", x.wrong(0), 1);
    doc.due("-3600", x.way(0, 0), -3600);
    x = doc.told("clock a 100;person p 40 sets;round p a 5;");
    x.reading(0, 4, 3701, 1000000);
    doc.due("none", x.wrong(0), 0);
    x = doc.told("clock a 100;person p 40 sets;round p a 5;");
    x.reading(0, 4, 160, 160);
    x.reading(0, 5, 100, 100);
    doc.due("one at a time: the clock alone doesn't", x.wrong(0), 0);
    doc.due("one at a time: the watch alone doesn't", x.wrong(1), 0);
    x = doc.told("clock a 0;clock b 0;person p 0 half;round p a 0;round p b 1;");
    x.reading(0, 3, 30, 30);
    x.reading(1, 3, 15, 15);
    doc.due("the clock", x.way(0, 0), 60);
    doc.due("or the watch", x.way(2, 0), 60);
    doc.due("not the other clock", x.wrong(1), 0);
  }

  private static void tries() {
    doc.says("TRIED: 0 without PERSON i (he passes nothing), 1 PERSON i sets, 2 takes, 3 half,");
    PassedClocks x = doc.after(5, TWO);
    doc.due("as told", x.off(2), 7);
    doc.due("without p: a", x.other(0, 0, 0), 50);
    doc.due("without p: p", x.other(0, 0, 1), 7);
    doc.due("without p: q", x.other(0, 0, 2), 50);
    doc.due("without q: q", x.other(0, 1, 2), 9);
    doc.due("without q: spread", x.tried(0, 1), 2);
    doc.due("p sets", x.other(1, 0, 0), 7);
    doc.due("q sets", x.other(1, 1, 0), 9);
    doc.due("p takes", x.other(2, 0, 1), 50);
    doc.due("then q", x.other(2, 0, 2), 50);
    doc.due("p half", x.other(3, 0, 0), 28);
    doc.due("p half: his watch", x.other(3, 0, 1), 28);
    x = doc.after(5, "clock a 50;person p 7 part 1 2 if 0;round p a 1;");
    for (int what = 1; what < 4; what++) doc.due("the rule stays: " + what, x.tried(what, 0), 43);
    x = doc.after(5, "clock a 50;person p 7 middle 2;round p a 1;");
    doc.due("sets in place of middle", x.other(1, 0, 0), 7);
    x = doc.after(5, "clock a 50;person p 7 part 1 2;round p a 1;");
    doc.due("takes in place of part", x.other(2, 0, 1), 50);
    doc.due("half in place of part", x.other(3, 0, 0), 28);
    x = doc.after(5, "clock a 50;gun a 2;person p 7 takes;round p a 3;person q 9 sets;round q a 4;");
    doc.due("without p the guns are there", x.other(0, 1, 1), 0);
    doc.due("and q is, too", x.other(0, 0, 0), 9);
    x = doc.after(5, "clock a 50;clock b 20;person p 0 middle 2;round p a 1;round p b 2;");
    for (int i = 0; i < 3; i++) doc.due("each time anew: 50, -30", x.other(5, 0, 2), 20);
    doc.says("4 nobody has a rule, 5 without guns, 6 without gains,");
    x = doc.after(5, "clock a 50;person p 7 sets if 0;person q 9 takes if 1/0;round p a 1;round q a 2;");
    doc.due("as told", x.off(0), 50);
    doc.due("p does it", x.other(4, 0, 0), 7);
    doc.due("q does it", x.other(4, 0, 2), 7);
    x = doc.after(5, "clock a 50;clock b 60;gun a 1;gun b 0;gun a 4;");
    doc.due("as told", x.off(1), 0);
    doc.due("without: a", x.other(5, 0, 0), 50);
    doc.due("without: b", x.other(5, 0, 1), 60);
    x = doc.after(5, "clock a 50 gains 3;person p 7 takes gains -2;");
    doc.due("without: a", x.other(6, 0, 0), 50);
    doc.due("without: p", x.other(6, 0, 1), 7);
    doc.says("7 PERSON i is right (OFF 0 at first, no GAIN, sets, no rule), 8 CLOCK i is seen by a gun at noon of day 0 too (hour 12).");
    x = doc.after(5, "clock a 50;person p 7 takes gains 5 if 0;round p a 1;person q 3 sets gains 1;");
    doc.due("p right: a", x.other(7, 0, 0), 0);
    doc.due("p right: p", x.other(7, 0, 1), 0);
    doc.due("p right: q as told", x.other(7, 0, 2), 7);
    doc.due("q right: p as told", x.other(7, 1, 1), 27);
    doc.due("q right: q", x.other(7, 1, 2), 0);
    doc.due("right ahead of all hours", doc.told("person p 7 takes;").other(7, 0, 0), 0);
    x = doc.after(12, "clock a 50 gains 1;gun a 3;clock b 9;gun b 3;person p 7 takes;round p a 12;");
    doc.due("not by hour 11", x.other(8, 0, 0), 8);
    x.hours(1);
    doc.due("in hour 12", x.other(8, 0, 0), 0);
    doc.due("ahead of its rounds", x.other(8, 0, 2), 0);
    doc.due("beside the guns that are told", x.other(8, 0, 1), 0);
    doc.due("another clock's", x.other(8, 1, 0), 9);
    doc.goTo(x, 180);
    doc.due("the told gun of the next week", x.other(8, 0, 0), 8);
    x.hours(1);
    doc.due("day 0 of the next week", x.other(8, 0, 0), 0);
    x = doc.after(13, "clock a 5;clock b 5;gun a 0;gun a 1;gun a 2;person p 7 takes;" + "round p a 13;".repeat(12));
    doc.due("with three guns and twelve rounds told", x.other(8, 1, 1), 0);
    doc.due("with three guns told", doc.after(13, "clock a 5;clock b 5;gun a 0;gun a 1;gun a 2;").other(8, 1, 1), 0);
    doc.says("What it makes: SPREAD now, or what something is OFF now.");
    x = doc.after(5, TWO);
    doc.due("spread: a and q 8, p 7", x.tried(3, 1), 1);
    doc.due("spread", x.tried(0, 0), 43);
    doc.due("something", x.other(0, 0, 2), 50);
  }

  private static void agreeing() {
    doc.says("AGREE by d: the first HOUR that went by from which on to the last one SPREAD is d at most.");
    PassedClocks x = doc.after(10, "clock a 0;person p 100 takes;person q 30 sets gains 1;round p a 2;round q a 4;");
    doc.due("39 is at most 39", x.agree(39), 2);
    doc.due("39 is not at most 38", x.agree(38), -1);
    doc.due("from the first on", x.agree(100), 0);
    doc.due("from hour 2 on", x.agree(99), 2);
    x = doc.after(8, "clock a 0 gains 1;person p 0 sets;round p a 3;round p a 6;");
    doc.due("in between they don't", x.agree(1), 6);
    doc.due("2 in hour 2 and 5", x.agree(2), 0);
    doc.due("the last hour alone", doc.after(7, "clock a 0 gains 1;person p 0 sets;round p a 3;round p a 6;").agree(0), 6);
    doc.due("one thing", doc.after(7, "clock a 50 gains 1;").agree(0), 0);
  }

  private static void oftenEnough() {
    doc.says("OFTEN of a CLOCK by d: the greatest k 1 .. 168 such that, with a gun for it in each HOUR that k divides (in place of all guns),"
        + " nothing is OFF by more than d, above or below 0, at the end of any HOUR.");
    PassedClocks x = doc.after(400, "clock a 900 gains 5;gun a 3;");
    doc.due("45 at most", x.often(0, 45), 10);
    doc.due("not 50", x.often(0, 49), 10);
    doc.due("50 at most", x.often(0, 50), 11);
    doc.due("each hour", x.often(0, 0), 1);
    doc.due("each other hour", x.often(0, 5), 2);
    doc.due("each week", x.often(0, 835), 168);
    doc.due("an hour sooner", x.often(0, 834), 167);
    doc.due("no k beyond", x.often(0, 100000), 168);
    doc.due("below 0", doc.after(400, "clock a 900 gains -5;").often(0, 45), 10);
    doc.due("hour 0, too", doc.after(1, "clock a 900;").often(0, 0), 168);
    doc.due("only hours that went by", doc.after(10, "clock a 9 gains 5;").often(0, 45), 168);
    doc.due("hour 168, too", doc.after(169, "clock a 9 gains 1;").often(0, 167), 168);
    x = doc.after(5, "clock a 0;clock b 50;gun b 0;");
    doc.due("in place of all guns", x.often(0, 49), 0);
    doc.due("in place of all guns", x.often(0, 50), 168);
    doc.due("the other clock's", x.often(1, 0), 168);
    x = doc.after(5, "clock a 50;person p 0 takes;round p a 0;");
    doc.due("ahead of the rounds", x.often(0, 0), 168);
    x = doc.after(5, "clock a 0;clock b 40;person p 0 takes;person q 0 sets;round p b 2;round p a 2;round q b 0;");
    doc.due("at the end of an hour alone", x.often(0, 0), 168);
    x = doc.after(5, "clock a 0;person p 0 takes gains 9;round p a 4;");
    doc.due("the watch in between", x.often(0, 26), 0);
    doc.due("27 in hour 3", x.often(0, 27), 168);
    x = doc.after(5, "clock a 0;clock b 50 gains -10;");
    doc.due("50 in hour 0", x.often(0, 49), 0);
    doc.due("50 in hour 0", x.often(0, 50), 168);
    x = doc.after(5, "clock a 0;clock b 50 gains -10;person p 0 sets;round p b 3;");
    doc.due("50 in hour 0, set later", x.often(0, 49), 0);
    doc.due("50 in hour 0, set later", x.often(0, 50), 168);
    x = doc.after(5, "clock a -30;clock b 0;");
    doc.due("the first clock without a gun", x.often(1, 29), 0);
    doc.due("the first clock without a gun", x.often(1, 30), 168);
    doc.due("hour 0 alone", doc.after(1, "clock a 0;clock b 5;").often(0, 4), 0);
    x = doc.after(9, "clock a 0 gains 1;person p 0 takes gains 1;round p a 4;");
    doc.due("any k by 8", x.often(0, 8), 168);
    doc.due("p is 4 ahead of 0 in hour 4, then 4 more", x.often(0, 4), 4);
  }

  private static void fewestRight() {
    doc.says("FEWEST by d: the set of PEOPLE with the fewest (then the least bits) who, all RIGHT as in TRIED 7, make SPREAD now d at most.");
    PassedClocks x = doc.after(5, "clock a 100;clock b 50;person p 10 sets;person q 20 sets;round p a 1;round q b 2;");
    doc.due("none: 10 at most", x.fewest(10, 0), 0);
    doc.due("none", x.fewest(10, 1), 0);
    doc.due("not 9: how many", x.fewest(9, 0), 2);
    doc.due("not 9: which", x.fewest(9, 1), 3);
    x = doc.after(5, "clock a 100;person p 1 sets if 0;person q 0 takes if 0;round p a 1;round q a 1;");
    doc.due("p or p and q: the fewest", x.fewest(1, 0), 1);
    doc.due("p as told is 1 off", x.fewest(1, 1), 1);
    doc.due("q leaves 1", x.fewest(0, 1), 1);
    x = doc.after(5, "clock a 100;person p 0 takes if 0;person q 0 takes if 0;person r 0 takes if 0;round r a 1;round q a 1;");
    doc.due("q or r: the least bits", x.fewest(0, 1), 2);
    x = doc.after(5, "clock a 100;clock b 90;person p 40 half;person q 50 sets;person r 60 sets;round p a 1;round q a 2;round r b 3;");
    doc.due("q 50, r 60, p 70", x.fewest(20, 0), 0);
    x = doc.after(5, "clock a 9;clock b 8;clock c 7;clock d 6;clock e 5;person a 1 sets;person b 2 sets;person c 3 sets;person d 4 sets;person e 5 sets;"
        + "round a a 1;round b b 1;round c c 1;round d d 1;round e e 1;");
    doc.due("all five", x.fewest(0, 1), 31);
    doc.due("four: all but the first", x.fewest(1, 1), 30);
    doc.due("four", x.fewest(1, 0), 4);
    doc.due("three: all but the first two", x.fewest(2, 1), 28);
    doc.due("none is needed", x.fewest(4, 1), 0);
    doc.due("two: the last two", x.fewest(3, 1), 24);
  }

  private static void purposes() {
    doc.says("PURPOSE: a PERSON passes a CLOCK once more, behind all ROUNDS of one HOUR that went by:"
        + " the HOUR with which something is OFF most now (or least), the first of several.");
    PassedClocks x = doc.after(10, "clock a 0 gains 5;person p 100 sets;round p a 4;");
    doc.due("ahead of hour 5 all are alike", x.purpose(0, 0, 0, true, 0), 0);
    doc.due("most", x.purpose(0, 0, 0, true, 1), 125);
    doc.due("least: in the last hour", x.purpose(0, 0, 0, false, 0), 9);
    doc.due("least", x.purpose(0, 0, 0, false, 1), 100);
    doc.due("the watch is always so: the first", x.purpose(0, 0, 1, false, 0), 0);
    x = doc.after(6, "clock a 0;person p 100 takes;person q 7 sets;round q a 3;");
    doc.due("behind the rounds of hour 3", x.purpose(0, 0, 1, true, 0), 3);
    doc.due("takes 7", x.purpose(0, 0, 1, true, 1), 7);
    doc.due("the first of hours 0 to 2", x.purpose(0, 0, 1, false, 0), 0);
    x = doc.after(1, "clock a 9;person p 5 takes;");
    doc.due("one hour", x.purpose(0, 0, 1, true, 0), 0);
    doc.due("in it", x.purpose(0, 0, 1, true, 1), 9);
    x = doc.after(30, "clock a 9;person p 5 takes if hour=1 and day=1;");
    doc.due("the names are of that hour", x.purpose(0, 0, 1, true, 0), 25);
    x = doc.after(3, "clock a 9;person p 5 sets if passed=1;round p a 2;");
    doc.due("once more: the round is the second", x.purpose(0, 0, 0, false, 1), 5);
    doc.due("in hour 0", x.purpose(0, 0, 0, false, 0), 0);
  }

  private static void moved() {
    doc.section("Promise 17");
    doc.says("MOVED of a thing by another one (v -36000 .. 36000).");
    PassedClocks x = doc.after(3, "clock a 90;person p 0 half;round p a 1;");
    doc.due("36000", x.moved(0, 1, 36000), 18000);
    doc.due("-36000", x.moved(0, 1, -36000), -18000);
    doc.due("nothing is changed", x.off(0), 45);
    doc.says("Integer.MIN_VALUE: no such ones.");
    doc.due("36001", x.moved(0, 1, 36001), NO);
    doc.due("-36001", x.moved(0, 1, -36001), NO);
    doc.due("v", x.moved(0, 1, Integer.MIN_VALUE), NO);
    doc.due("v", x.moved(0, 1, Integer.MAX_VALUE), NO);
    doc.due("thing", x.moved(2, 1, 1), NO);
    doc.due("other", x.moved(0, 2, 1), NO);
    for (int wild : WILD) {
      doc.due("thing " + wild, x.moved(wild, 1, 1), NO);
      doc.due("other " + wild, x.moved(0, wild, 1), NO);
    }
  }

  private static void ends() {
    doc.section("Promise 18");
    doc.says("ENDS, what 0: the least, 1: the greatest.");
    PassedClocks x = doc.told("clock a 36000 rough 36000;person p 0 sets rough 5;round p a 1;");
    doc.due("ahead of all hours: the least", x.ends(0, 0), 0);
    doc.due("the greatest", x.ends(0, 1), 72000);
    x.hours(2);
    doc.due("then: the least", x.ends(0, 0), -5);
    doc.due("the greatest", x.ends(0, 1), 5);
    doc.due("of the watch", x.ends(1, 1), 5);
    x.keep();
    Sentences.text(x, "clock a 7 rough 2;");
    x.hours(2);
    doc.due("of another text", x.ends(0, 1), 9);
    doc.says("Integer.MIN_VALUE: no such ones.");
    doc.due("what 2", x.ends(0, 2), NO);
    doc.due("thing 1", x.ends(1, 0), NO);
    for (int wild : WILD) {
      doc.due("what " + wild, x.ends(0, wild), NO);
      doc.due("thing " + wild, x.ends(wild, 0), NO);
    }
  }

  private static void readings() {
    doc.section("Promise 19");
    doc.says("A READING (low -1000000 .. 1000000, high not below it and 1000000 at most; an HOUR 0 .. 1999): its number;");
    PassedClocks x = doc.told("clock a 0;person p 0 sets;");
    doc.due("the widest, the last hour", x.reading(0, 1999, -1000000, 1000000), 0);
    doc.due("the lowest, the first hour", x.reading(1, 0, -1000000, -1000000), 1);
    doc.due("the highest", x.reading(1, 0, 1000000, 1000000), 2);
    doc.says("NONE: no such ones, or there are 30.");
    doc.due("thing 2", x.reading(2, 0, 0, 0), -1);
    doc.due("hour 2000", x.reading(0, 2000, 0, 0), -1);
    doc.due("low", x.reading(0, 0, -1000001, 0), -1);
    doc.due("low and high", x.reading(0, 0, 1000001, 1000001), -1);
    doc.due("high", x.reading(0, 0, 0, 1000001), -1);
    doc.due("high below low", x.reading(0, 0, 0, -1), -1);
    doc.due("low", x.reading(0, 0, Integer.MIN_VALUE, 0), -1);
    doc.due("high", x.reading(0, 0, 0, Integer.MAX_VALUE), -1);
    for (int wild : WILD) {
      doc.due("thing " + wild, x.reading(wild, 0, 0, 0), -1);
      doc.due("hour " + wild, x.reading(0, wild, 0, 0), -1);
    }
    doc.due("none of them is one", x.count(4), 3);
    for (int i = 3; i < 30; i++) doc.due("reading " + i, x.reading(0, i, 0, 0), i);
    doc.due("a 31st", x.reading(0, 0, 0, 0), -1);
    doc.due("still 30", x.count(4), 30);
    Sentences.text(x, "clock a 0;");
    doc.due("of another text", x.reading(0, 0, 0, 0), 0);
  }

  private static void known() {
    doc.section("Promise 20");
    doc.says("KNOWN by n READINGS from now on (-1: by all, also those to come): true;");
    PassedClocks x = doc.told("clock a 0;");
    doc.due("known(0) of none", Sentences.is(x.known(0)), 1);
    x.reading(0, 0, 1, 1);
    doc.due("by none", x.count(5), 0);
    doc.due("judged by none", x.judged(), -1);
    doc.due("known(1) of one", Sentences.is(x.known(1)), 1);
    x.reading(0, 0, 1, 1);
    doc.due("by one of two", x.count(5), 1);
    doc.due("known(-1)", Sentences.is(x.known(-1)), 1);
    doc.due("by two", x.count(5), 2);
    x.reading(0, 0, 1, 1);
    doc.due("also those to come", x.count(5), 3);
    doc.due("known(3) of three", Sentences.is(x.known(3)), 1);
    x.reading(0, 0, 1, 1);
    doc.due("by three from now on", x.count(5), 3);
    doc.says("false: no such n.");
    doc.due("known(5) of four", Sentences.is(x.known(5)), 0);
    doc.due("still by three", x.count(5), 3);
    for (int wild : new int[] {-2, Integer.MIN_VALUE, Integer.MAX_VALUE}) doc.due("known(" + wild + ")", Sentences.is(x.known(wild)), 0);
    doc.due("still by three", x.count(5), 3);
    doc.due("known(1) of no text", Sentences.is(new PassedClocks().known(1)), 0);
    for (int i = 4; i < 30; i++) x.reading(0, 0, 1, 1);
    doc.due("known(30)", Sentences.is(x.known(30)), 1);
    doc.due("known(31)", Sentences.is(x.known(31)), 0);
  }

  private static void judged() {
    doc.section("Promise 21");
    doc.says("The first of KNOWN READINGS that isn't so in the RUN as told;");
    PassedClocks x = doc.told("clock a 0 gains 1;person p 50 sets;round p a 10;");
    x.reading(0, 9, 9, 9);
    x.reading(0, 1000, 0, 5);
    x.reading(0, 5, 0, 4);
    doc.due("the first by number, not by hour", x.judged(), 1);
    x = doc.told("clock a 0 gains 1;");
    x.reading(0, 9, 8, 8);
    doc.due("number 0", x.judged(), 0);
    x = doc.told("clock a 0 gains 1;person p 50 sets;round p a 10;");
    x.reading(0, 20, 60, 60);
    doc.due("so", x.judged(), -1);
    x.reading(0, 5, 5, 5);
    doc.due("so, though its hour is ahead of the first's", x.judged(), -1);
    doc.due("nor is a way lost", x.way(0, 0), 0);
    x.reading(0, 5, 6, 6);
    doc.due("the third isn't", x.judged(), 2);
    x = doc.told("clock a 0 gains 1;person p 50 sets;round p a 15;");
    x.reading(0, 5, 5, 5);
    x.reading(0, 20, 55, 55);
    x.reading(0, 12, 12, 12);
    doc.due("so, though its hour is between theirs", x.judged(), -1);
    doc.says("NONE: all are.");
    x = doc.told("clock a 0 gains 1;person p 50 sets;");
    doc.due("there are none", x.judged(), -1);
    x.reading(0, 9, 9, 9);
    x.reading(0, 1999, 1999, 1999);
    doc.due("all", x.judged(), -1);
    x.reading(0, 9, 8, 8);
    x.known(2);
    doc.due("all that are known", x.judged(), -1);
    x.hours(10);
    x.pass(0, 0);
    doc.due("by hand is not in the run", x.judged(), -1);
  }

  private static void wrong() {
    doc.section("Promise 22");
    doc.says("WRONG: how many ways, of a thing;");
    PassedClocks x = doc.told("clock a 100;person p 40 sets;round p a 5;");
    doc.due("any", x.wrong(1), 121);
    x.reading(0, 4, 0, 300);
    doc.due("-60 to 180", x.wrong(0), 5);
    doc.due("any of the watch", x.wrong(1), 121);
    x.reading(0, 5, 160, 1000000);
    doc.due("none of the clock", x.wrong(0), 0);
    doc.due("the watch from 120 on", x.wrong(1), 59);
    doc.says("NONE: no such one.");
    doc.due("thing 2", x.wrong(2), -1);
    for (int wild : WILD) doc.due("thing " + wild, x.wrong(wild), -1);
  }

  private static void ways() {
    doc.section("Promise 23");
    doc.says("The k-th way (by k of 60 times k, the least first): the seconds.");
    PassedClocks x = doc.told("clock a 100;person p 40 sets;round p a 5;");
    x.reading(0, 4, 0, 300);
    for (int k = 0; k < 5; k++) doc.due("way(0, " + k + ")", x.way(0, k), 60 * (k - 1));
    doc.due("of the watch", x.way(1, 120), 3600);
    doc.due("of the clock again", x.way(0, 4), 180);
    doc.says("Integer.MIN_VALUE: no such ones.");
    doc.due("way(0, 5)", x.way(0, 5), NO);
    doc.due("way(1, 121)", x.way(1, 121), NO);
    doc.due("thing 2", x.way(2, 0), NO);
    for (int wild : WILD) {
      doc.due("k " + wild, x.way(0, wild), NO);
      doc.due("thing " + wild, x.way(wild, 0), NO);
    }
    x.reading(0, 4, 9, 9);
    doc.due("no way", x.way(0, 0), NO);
    x.known(0);
    doc.due("known by none: the first", x.way(0, 0), -3600);
    doc.due("the last", x.way(0, 120), 3600);
    doc.due("no more", x.way(0, 121), NO);
    x.known(1);
    doc.due("known by one again", x.way(0, 5), NO);
    Sentences.text(x, "clock a 0;");
    doc.due("of another text", x.way(0, 120), 3600);
    doc.due("of another text", x.way(0, 121), NO);
  }

  private static void tried() {
    doc.section("Promise 24");
    doc.says("TRIED: SPREAD now (0 of nothing).");
    PassedClocks x = doc.after(5, TWO);
    int[] spreads = {43, 0, 0, 0, 0, 0, 0, 0, 0};
    for (int what = 0; what < 9; what++) doc.due("tried(" + what + ", 0)", x.tried(what, 0), spreads[what]);
    doc.due("tried(0, 1)", x.tried(0, 1), 2);
    doc.due("ahead of all hours", doc.told(TWO).tried(4, 0), 43);
    for (int what = 4; what < 7; what++) doc.due("of nothing", doc.after(3, "").tried(what, 0), 0);
    doc.due("of one", doc.after(3, "clock a 9;").tried(5, 0), 0);
    doc.says("NONE: no such ones (i 0 of 4, 5, 6).");
    doc.due("what 9", x.tried(9, 0), -1);
    for (int wild : WILD) {
      doc.due("what " + wild, x.tried(wild, 0), -1);
      for (int what = 0; what < 9; what++) doc.due("i " + wild + " of " + what, x.tried(what, wild), -1);
    }
    for (int what = 0; what < 8; what++) doc.due("i 2 of " + what, x.tried(what, 2), -1);
    for (int what = 4; what < 7; what++) doc.due("i 1 of " + what, x.tried(what, 1), -1);
    doc.due("clock 1", x.tried(8, 1), -1);
    for (int what = 0; what < 4; what++) doc.due("nobody", doc.told("clock a 1;").tried(what, 0), -1);
    doc.due("nobody", doc.told("clock a 1;").tried(7, 0), -1);
    doc.due("no clock", doc.told("person p 1 sets;").tried(8, 0), -1);
  }

  private static void other() {
    doc.section("Promise 25");
    doc.says("TRIED: what a thing is OFF now.");
    PassedClocks x = doc.after(5, TWO);
    int[] clock = {50, 7, 50, 28, 7, 7, 7, 0, 7};
    for (int what = 0; what < 9; what++) doc.due("other(" + what + ", 0, 0)", x.other(what, 0, 0), clock[what]);
    doc.due("nothing is changed", x.off(0), 7);
    doc.due("ahead of all hours", doc.told(TWO).other(7, 1, 2), 0);
    doc.says("Integer.MIN_VALUE: no such ones.");
    doc.due("thing 3", x.other(5, 0, 3), NO);
    doc.due("what 9", x.other(9, 0, 0), NO);
    for (int wild : WILD) {
      doc.due("what " + wild, x.other(wild, 0, 0), NO);
      for (int what = 0; what < 9; what++) {
        doc.due("i " + wild + " of " + what, x.other(what, wild, 0), NO);
        doc.due("thing " + wild + " of " + what, x.other(what, 0, wild), NO);
      }
    }
    for (int what = 0; what < 8; what++) doc.due("i 2 of " + what, x.other(what, 2, 0), NO);
    for (int what = 4; what < 7; what++) doc.due("i 1 of " + what, x.other(what, 1, 0), NO);
    doc.due("clock 1", x.other(8, 1, 0), NO);
    doc.due("nothing is there", doc.after(3, "").other(5, 0, 0), NO);
  }

  private static void agree() {
    doc.section("Promise 26");
    doc.says("AGREE (d 0 .. 100000);");
    PassedClocks x = doc.after(3, "clock a 0;person p 9 sets;round p a 1;");
    doc.due("agree(0)", x.agree(0), 1);
    doc.due("agree(9)", x.agree(9), 0);
    doc.due("agree(100000)", x.agree(100000), 0);
    x = doc.after(40, "clock a -36000 gains -600;person p 36000 sets gains 600;");
    doc.due("up to 118800 apart", x.agree(100000), -1);
    doc.says("NONE: they don't at the end, nothing is there, no HOUR went by, no such d.");
    doc.due("not at the end", doc.after(3, "clock a 0;person p 9 sets;").agree(8), -1);
    doc.due("not at the end, though once", doc.after(3, "clock a 0 gains 5;person p 0 sets;").agree(9), -1);
    doc.due("nothing is there", doc.after(3, "").agree(5), -1);
    x = doc.told("clock a 0;person p 0 sets;");
    doc.due("no hour went by", x.agree(5), -1);
    x.hours(1);
    doc.due("one did", x.agree(5), 0);
    doc.due("agree(100001)", x.agree(100001), -1);
    for (int wild : WILD) doc.due("agree(" + wild + ")", x.agree(wild), -1);
  }

  private static void often() {
    doc.section("Promise 27");
    doc.says("OFTEN;");
    PassedClocks x = doc.told("clock a 900 gains 5;clock b 7;");
    doc.due("no hour went by", x.often(0, 0), 168);
    doc.goTo(x, 2000);
    doc.due("each week", x.often(0, 835), 168);
    doc.due("each 2 hours", x.often(0, 7), 2);
    doc.due("nothing is changed", x.off(0), 900 + 5 * 1999);
    doc.says("0: not even by k 1;");
    doc.due("the other clock is off", x.often(0, 6), 0);
    doc.due("nothing is off by 0 at most", x.often(0, 0), 0);
    doc.says("NONE: no such CLOCK, d.");
    doc.due("clock 2", x.often(2, 5), -1);
    for (int wild : WILD) {
      doc.due("clock " + wild, x.often(wild, 5), -1);
      doc.due("d " + wild, x.often(0, wild), -1);
    }
    doc.due("a watch is none", doc.told("clock a 1;person p 1 sets;").often(1, 5), -1);
    doc.due("d 100001", x.often(0, 100001), -1);
    doc.due("d 100000", x.often(0, 100000), 168);
  }

  private static void fewest() {
    doc.section("Promise 28");
    doc.says("FEWEST, what 0: how many, 1: which (bits).");
    PassedClocks x = doc.after(5, "clock a 100;person p 10 sets;person q 20 takes if 0;round p a 1;round q a 2;");
    doc.due("none", x.fewest(10, 0), 0);
    doc.due("which none", x.fewest(10, 1), 0);
    doc.due("two", x.fewest(0, 0), 2);
    doc.due("which two", x.fewest(0, 1), 3);
    x = doc.after(5, "clock a 100;person p 0 sets if 0;person q 0 takes if 0;round q a 2;");
    doc.due("one", x.fewest(0, 0), 1);
    doc.due("the second", x.fewest(0, 1), 2);
    doc.due("nothing is there", doc.after(3, "").fewest(0, 0), 0);
    doc.due("nobody is there", doc.after(3, "clock a 5;").fewest(0, 1), 0);
    doc.due("no hour went by", doc.told("person p 5 sets;person q 0 sets;").fewest(0, 1), 1);
    doc.says("-2: no set does;");
    x = doc.after(3, "clock a 100;clock b 0;person p 0 sets;");
    doc.due("how many", x.fewest(99, 0), -2);
    doc.due("which", x.fewest(99, 1), -2);
    doc.due("just so", x.fewest(100, 0), 0);
    doc.due("nobody is there", doc.after(3, "clock a 5;clock b 0;").fewest(4, 1), -2);
    doc.says("NONE: no such d, what.");
    doc.due("d 100001", x.fewest(100001, 0), -1);
    doc.due("d 100000", x.fewest(100000, 0), 0);
    doc.due("what 2", x.fewest(5, 2), -1);
    for (int wild : WILD) {
      doc.due("d " + wild, x.fewest(wild, 0), -1);
      doc.due("what " + wild, x.fewest(100, wild), -1);
    }
  }

  private static void purpose() {
    doc.section("Promise 29");
    doc.says("PURPOSE by a PERSON at a CLOCK, so that a thing is OFF most (or least), what 0: the HOUR, 1: what it is OFF then.");
    PassedClocks x = doc.after(6, "clock a 0 gains 5;person p 100 sets;clock b 40;person q 3 takes;");
    doc.due("most: the hour", x.purpose(0, 0, 0, true, 0), 0);
    doc.due("most", x.purpose(0, 0, 0, true, 1), 125);
    doc.due("least: the hour", x.purpose(0, 0, 0, false, 0), 5);
    doc.due("least", x.purpose(0, 0, 0, false, 1), 100);
    doc.due("another person, clock and thing", x.purpose(1, 0, 3, true, 1), 25);
    doc.due("the hour", x.purpose(1, 0, 3, true, 0), 5);
    doc.due("the other clock", x.purpose(1, 1, 3, true, 1), 40);
    doc.due("the hour", x.purpose(1, 1, 3, true, 0), 0);
    doc.due("the first again", x.purpose(0, 0, 0, true, 1), 125);
    doc.due("nothing is changed", x.off(0), 25);
    doc.due("no passing", x.count(8), 0);
    x.hours(1);
    doc.due("an hour on", x.purpose(0, 0, 0, false, 0), 6);
    Sentences.text(x, "clock a 0 gains 5;person p 50 sets;clock b 40;person q 3 takes;");
    x.hours(7);
    doc.due("of another text", x.purpose(0, 0, 0, false, 1), 50);
    doc.due("of 2000 hours", doc.after(2000, "clock a 0 gains 1;person p 0 takes;").purpose(0, 0, 1, true, 0), 1999);
    doc.says("Integer.MIN_VALUE: no such ones, no HOUR went by.");
    doc.due("person 2", x.purpose(2, 0, 0, true, 0), NO);
    doc.due("clock 2", x.purpose(0, 2, 0, true, 0), NO);
    doc.due("thing 4", x.purpose(0, 0, 4, true, 0), NO);
    doc.due("what 2", x.purpose(0, 0, 0, true, 2), NO);
    for (int wild : WILD) {
      doc.due("person " + wild, x.purpose(wild, 0, 0, true, 0), NO);
      doc.due("clock " + wild, x.purpose(0, wild, 0, true, 0), NO);
      doc.due("thing " + wild, x.purpose(0, 0, wild, true, 0), NO);
      doc.due("what " + wild, x.purpose(0, 0, 0, false, wild), NO);
    }
    x = doc.told("clock a 0 gains 5;person p 100 sets;");
    doc.due("no hour: the hour", x.purpose(0, 0, 0, true, 0), NO);
    doc.due("no hour", x.purpose(0, 0, 0, false, 1), NO);
  }

  private static void waits() {
    doc.section("Promise 30");
    doc.says("WAITS;");
    PassedClocks x = doc.told("clock a 5;person p -36000 takes gains -600;person q 36000 sets gains 600;");
    doc.due("ahead of all hours", x.waits(1, 0), 72000);
    doc.due("himself", x.waits(1, 1), 0);
    x.hours(2);
    doc.due("now", x.waits(1, 0), 73200);
    doc.due("the other", x.waits(0, 1), -73200);
    x.pass(0, 0);
    doc.due("by hand, too", x.waits(0, 1), 5 - 36600);
    doc.says("Integer.MIN_VALUE: no such PEOPLE.");
    doc.due("waits(2, 0)", x.waits(2, 0), NO);
    doc.due("waits(0, 2)", x.waits(0, 2), NO);
    for (int wild : WILD) {
      doc.due("first " + wild, x.waits(wild, 0), NO);
      doc.due("second " + wild, x.waits(0, wild), NO);
    }
    doc.due("nobody", doc.told("clock a 5;").waits(0, 0), NO);
  }

  private static void images() {
    doc.section("Promise 31");
    doc.says("An IMAGE is kept (in place of one ahead): which HOUR is next.");
    PassedClocks x = doc.told("clock a 90 gains 3;person p 0 sets;");
    doc.due("keep at 0", x.keep(), 0);
    x.hours(4);
    doc.due("keep at 4", x.keep(), 4);
    x.hours(2);
    doc.due("the later one", x.back(), 4);
    x.pass(0, 0);
    doc.due("keep at 4, passed by hand", x.keep(), 4);
    x.hours(1);
    doc.due("back", x.back(), 4);
    doc.due("with what was made by hand", x.off(0), 0);
    doc.due("keep at 2000", keptAtTheEnd(), 2000);
    doc.section("Promise 32");
    doc.says("All is as in the IMAGE (READINGS stay): which HOUR is next;");
    x.reading(0, 0, 90, 90);
    x.reading(0, 0, 5, 9);
    x.known(1);
    x.pass(0, 0);
    x.hours(500);
    doc.due("back", x.back(), 4);
    doc.due("hour", x.count(6), 4);
    doc.due("passings", x.count(8), 1);
    doc.due("readings stay", x.count(4), 2);
    doc.due("known stays", x.count(5), 1);
    doc.due("off", x.off(0), 0);
    doc.due("was", x.was(0, 3), 0);
    doc.due("spread", x.spread(3), 0);
    doc.due("ahead of it", x.was(0, 2), 96);
    doc.due("not gone by", x.was(0, 4), NO);
    doc.due("back once more", x.back(), 4);
    doc.due("agree by what is now", x.agree(0), 3);
    x.hours(1);
    doc.due("hours go on", x.off(0), 3);
    x = doc.told("clock a 90 gains 3;");
    x.keep();
    x.hours(5);
    doc.due("back to 0", x.back(), 0);
    doc.due("no hour went by", x.was(0, 0), NO);
    doc.due("as at first", x.off(0), 90);
    doc.says("NONE: there is none.");
    doc.due("a new object", new PassedClocks().back(), -1);
    x = doc.after(3, "clock a 1;");
    doc.due("none kept", x.back(), -1);
    doc.due("all stays", x.count(6), 3);
    x.keep();
    Sentences.text(x, "clock a 1;");
    doc.due("of the text ahead", x.back(), -1);
  }

  private static int keptAtTheEnd() {
    return doc.after(2000, "clock a 1;").keep();
  }

  private static void count() {
    doc.section("Promise 33");
    doc.says("0 CLOCKS, 1 PEOPLE, 2 ROUNDS, 3 GUNS, 4 READINGS, 5 by how many it is KNOWN, 6 the HOUR that is next, 7 KNOTS, 8 passings (by hand, too).");
    PassedClocks x = doc.after(2, "clock a 1;clock b 1;person p 1 sets if ahead+1>0;round p a 0;round p b 1;round p b 2;gun a 1;"
        + "person q 0 sets;person r 0 takes if not (1);");
    x.reading(0, 0, 0, 0);
    x.reading(0, 0, 0, 0);
    x.known(1);
    x.pass(1, 1);
    int[] counts = {2, 3, 3, 1, 2, 1, 2, 7, 3};
    for (int what = 0; what < 9; what++) doc.due("count(" + what + ")", x.count(what), counts[what]);
    x = doc.told("clock a 0;clock b 0;clock c 0;clock d 0;clock e 0;person a 0 sets if " + "not ".repeat(63) + "1;person b 0 sets;person c 0 sets;"
        + "person d 0 sets;person e 0 sets;gun a 0;gun a 0;gun a 0;" + "round a a 0;".repeat(12));
    for (int i = 0; i < 30; i++) x.reading(0, 0, 0, 0);
    doc.goTo(x, 2000);
    int[] full = {5, 5, 12, 3, 30, 30, 2000, 64, 144};
    for (int what = 0; what < 9; what++) doc.due("all that can be: count(" + what + ")", x.count(what), full[what]);
    doc.says("NONE for another what.");
    doc.due("count(9)", x.count(9), -1);
    for (int wild : WILD) doc.due("count(" + wild + ")", x.count(wild), -1);
  }

  private static void manyCalls() {
    doc.says("An object is used for at most 512 calls after it has been made; what later calls answer is free.");
    PassedClocks x = new PassedClocks();
    doc.due("two calls of feed", Sentences.feed(x, "clock a 0 gains 1;person p 0 sets;"), 40);
    doc.due("the third call", x.text(34), 2);
    doc.due("the fourth call", x.hours(500), 500);
    for (int call = 5; call < 512; call++) x.pass(0, 0);
    doc.due("the 512th call", x.count(8), 507);
  }
}
