import java.util.List;

/** Every sentence of the document on texts ('Terms' up to ==== 2., promises 1 to 8), with its boundary cases. */
public final class TextSentencesTest {
  private static final int NO = Sentences.NO;
  private static final int LOOKED = Sentences.LOOKED;
  private static final String[] LANGUAGE = {"clock", "person", "round", "gun", "gains", "rough", "if", "sets", "takes", "half",
    "part", "middle", "or", "and", "not", "ahead", "last", "passed", "hour", "day"};
  private static final String FIVE_CLOCKS = "clock a 0;clock b 0;clock c 0;clock d 0;clock e 0;";
  private static final String FIVE_PEOPLE = "person a 0 sets;person b 0 sets;person c 0 sets;person d 0 sets;person e 0 sets;";
  private static final String BOTH = "clock c 1;person p 1 sets;";
  private static final String RULED = "person p 0 sets if ";
  /** A rule of 64 knots, and one of 63. */
  private static final String FULL = "not 1" + "+1".repeat(31);
  private static final String NEARLY = "1" + "+1".repeat(31);

  private static final Sentences doc = new Sentences();

  public static void main(String[] args) {
    doc.section("Terms 1");
    lines();
    words();
    rules();
    limitsOfClocksAndPeople();
    limitsOfRoundsAndGuns();
    order();
    misplaced();
    tooMuch();
    toldAlready();
    notTold();
    newObject();
    feeding();
    texts();
    faults();
    names();
    looks();
    clocks();
    rounds();
    doc.end(List.of("Terms 1", "Promise 1", "Promise 2", "Promise 3", "Promise 4", "Promise 5", "Promise 6", "Promise 7", "Promise 8"));
  }

  private static void rule(String e, int fault, int place) {
    doc.fault(RULED + e, fault, fault == 0 ? -1 : RULED.length() + place);
  }

  private static long value(String e) {
    return doc.told(RULED + e + ";").rule(0, 0, 0, 0, 0);
  }

  private static void lines() {
    doc.says("A TEXT: { LINE ';' }.");
    doc.fits("");
    doc.fits(" \n ");
    doc.fits("clock c 1;");
    doc.fits("clock c 1;clock d 1;person c 1 sets;");
    doc.fault(";", 1, 0);
    doc.fault("clock c 1", 1, 9);
    doc.fault("clock c 1;;", 1, 10);
    doc.fault("clock c 1 clock d 1;", 1, 10);
    doc.fault("c 1;", 1, 0);
    doc.says("LINE: clock W O { gains O | rough N } | person W O CUSTOM { gains O | rough N | if E } | round W W N | gun W N.");
    doc.fits("clock c 1 gains 1 rough 1;clock d 1 rough 1 gains 1;");
    doc.fits("person p 1 sets gains 1 rough 1 if 1;person q 1 sets if 1 rough 1 gains 1;");
    endsTooSoon("", "clock c - 1 gains - 2 rough 3 ");
    endsTooSoon("", "person p - 1 part 2 3 gains - 4 rough 5 if 1 ");
    endsTooSoon(BOTH, "round p c 1 ");
    endsTooSoon(BOTH, "gun c 1 ");
    doc.fault("clock;", 1, 5);
    doc.fault("clock c;", 1, 7);
    doc.fault("clock 1;", 1, 6);
    doc.fault("clock c c;", 1, 8);
    doc.fault("clock c 1 gains;", 1, 15);
    doc.fault("clock c 1 rough;", 1, 15);
    doc.fault("clock c 1 rough -1;", 1, 16);
    doc.fault("clock c 1 if 1;", 1, 10);
    doc.fault("clock c 1 sets;", 1, 10);
    doc.fault("clock c 1 2;", 1, 10);
    doc.fault("person p sets;", 1, 9);
    doc.fault("person p 1;", 1, 10);
    doc.fault("person p 1 gains 1;", 1, 11);
    doc.fault("person p 1 sets if;", 1, 18);
    doc.fault("person p 1 sets takes;", 1, 16);
    doc.fault(BOTH + "round p;", 1, 33);
    doc.fault(BOTH + "round p c;", 1, 35);
    doc.fault(BOTH + "round p c -1;", 1, 36);
    doc.fault(BOTH + "round p c 1 1;", 1, 38);
    doc.fault(BOTH + "round 1;", 1, 32);
    doc.fault(BOTH + "round p 1;", 1, 34);
    doc.fault(BOTH + "gun;", 1, 29);
    doc.fault(BOTH + "gun 1;", 1, 30);
    doc.fault(BOTH + "gun c;", 1, 31);
    doc.fault(BOTH + "gun c -1;", 1, 32);
    doc.fault(BOTH + "gun c 1 1;", 1, 34);
    doc.says("O: [ - ] N.");
    doc.due("-7", doc.told("clock c -7;").clock(0, 0), -7);
    doc.due("- 7", doc.told("clock c - 7;").clock(0, 0), -7);
    doc.due("-0", doc.told("clock c -0;").clock(0, 0), 0);
    doc.due("gains -7", doc.told("clock c 0 gains -7;").clock(0, 1), -7);
    doc.fault("clock c -;", 1, 9);
    doc.fault("clock c --7;", 1, 9);
    doc.fault("clock c +7;", 1, 8);
    doc.says("CUSTOM: sets | takes | half | part N N | middle N.");
    doc.fits("person a 1 sets;person b 1 takes;person c 1 half;person d 1 part 1 2;person e 1 middle 1;");
    doc.fault("person p 1 part;", 1, 15);
    doc.fault("person p 1 part 1;", 1, 17);
    doc.fault("person p 1 part -1 2;", 1, 16);
    doc.fault("person p 1 part 1 2 3;", 1, 20);
    doc.fault("person p 1 middle;", 1, 17);
    doc.fault("person p 1 middle 1 2;", 1, 20);
    for (String custom : new String[] {"sets", "takes", "half"}) doc.fault("person p 1 " + custom + " 1;", 1, 12 + custom.length());
    for (String word : LANGUAGE) {
      if (!List.of("sets", "takes", "half", "part", "middle").contains(word)) doc.fault("person p 1 " + word, 1, 11);
    }
  }

  /** A blank stands behind each token, and a line whose ';' isn't there is never whole. */
  private static void endsTooSoon(String ahead, String line) {
    for (int at = line.indexOf(' '); at >= 0; at = line.indexOf(' ', at + 1)) {
      doc.fault(ahead + line.substring(0, at), 1, ahead.length() + at);
      doc.fault(ahead + line.substring(0, at + 1), 1, ahead.length() + at + 1);
    }
  }

  private static void words() {
    doc.says("Words: small letters in a row; W: one of 1 .. 6 letters, none of those of the language; N: digits.");
    doc.fits("clock a 1;clock z 1;clock abcdef 1;person zzzzzz 1 sets;");
    doc.fault("clock abcdefg 1;", 1, 6);
    doc.fault("person abcdefghijklmnopqrstuvwxyz 1 sets;", 1, 7);
    doc.fault("clock A 1;", 1, 6);
    doc.fault("clock aB 1;", 1, 7);
    doc.fault("Clock a 1;", 1, 0);
    doc.fault("clock a b 1;", 1, 8);
    doc.fault("clock ` 1;", 1, 6);
    doc.fault("clock { 1;", 1, 6);
    for (String word : LANGUAGE) {
      doc.fault("clock " + word + " 1;", 1, 6);
      doc.fault("person " + word + " 1 sets;", 1, 7);
      doc.fault(BOTH + "round " + word + " c 1;", 1, 32);
      doc.fault(BOTH + "round p " + word + " 1;", 1, 34);
      doc.fault(BOTH + "gun " + word + " 1;", 1, 30);
      if (word.length() < 6) doc.fits("clock " + word + "x 1;");
      doc.fits("clock " + word.substring(1) + " 1;");
    }
    doc.due("digits", doc.told("clock c 1234;").clock(0, 0), 1234);
    doc.due("0 ahead", doc.told("clock c 000000000000000000000000036000;").clock(0, 0), 36000);
    doc.due("a number right behind a word", doc.told("clock c12;").clock(0, 0), 12);
    doc.due("a word right behind a number", doc.told("clock c 0gains 5;").clock(0, 1), 5);
    doc.fault("clock c 1 2;", 1, 10);
    doc.fault("clock c 1,2;", 1, 9);
    doc.fault("clock c /;", 1, 8);
    doc.fault("clock c :;", 1, 8);
    doc.says("Blanks 10, 32.");
    doc.fits("\n \nclock\n \nc 1\n;\n \n");
    for (int sign = 0; sign < 256; sign++) {
      boolean blank = sign == 10 || sign == 32;
      doc.fault("clock c 1;" + (char) sign, blank ? 0 : 1, blank ? -1 : 10);
    }
  }

  private static void rules() {
    doc.says("E: A { or A }. A: B { and B }.");
    rule("1 or 1 and 1 or 1;", 0, 0);
    rule("or 1;", 1, 0);
    rule("and 1;", 1, 0);
    rule("1 or;", 1, 4);
    rule("1 and;", 1, 5);
    rule("1 and or 1;", 1, 6);
    rule("1 or or 1;", 1, 5);
    doc.due("and ahead of or", value("1 or 1 and 0"), 1);
    doc.due("or behind and", value("0 and 1 or 1"), 1);
    doc.says("B: not B | C.");
    rule("not not not 1;", 0, 0);
    rule("1 and not 1 or not 1;", 0, 0);
    rule("not;", 1, 3);
    rule("not and 1;", 1, 4);
    rule("1 not 1;", 1, 2);
    rule("1 = not 1;", 1, 4);
    rule("1 + not 1;", 1, 4);
    rule("1 * not 1;", 1, 4);
    rule("1 = (not 1);", 0, 0);
    doc.due("not of all of C", value("not 0 = 1"), 1);
    doc.due("not ahead of and", value("not 1 and 0"), 0);
    doc.says("C: S [ ( < | <= | = | <> | >= | > ) S ].");
    for (String sign : new String[] {"<", "<=", "=", "<>", ">=", ">"}) {
      rule("1" + sign + "1;", 0, 0);
      rule("1" + sign + "1=1;", 1, 2 + sign.length());
      rule("(1" + sign + "1)=1;", 0, 0);
      rule("1" + sign + ";", 1, 1 + sign.length());
      rule(sign + "1;", 1, 0);
    }
    doc.says("S: T { ( + | - ) T }. T: P { ( * | / ) P }.");
    for (String sign : new String[] {"+", "-", "*", "/"}) {
      rule("1" + sign + "1" + sign + "1;", 0, 0);
      rule(sign + "1;", 1, 0);
      rule("1" + sign + ";", 1, 2);
      rule("1" + sign + sign + "1;", 1, 2);
      rule("(" + sign + "1);", 1, 1);
    }
    doc.due("from the left on", value("9-4-3"), 2);
    doc.due("from the left on", value("60/6/5*3"), 6);
    doc.due("* / ahead of + -", value("1+2*3-8/4"), 5);
    doc.says("P: N | NAME | '(' E ')'; N of E 0 .. 99999. NAME: ahead last passed hour day.");
    rule("(1 or not 1);", 0, 0);
    rule("();", 1, 1);
    rule("(;", 1, 1);
    rule("(1;", 1, 2);
    rule("1);", 1, 1);
    rule("(1)(1);", 1, 3);
    rule("1 1;", 1, 2);
    rule("ahead last;", 1, 6);
    doc.due("0", value("0"), 0);
    doc.due("99999", value("99999"), 99999);
    doc.due("0 ahead", value("000000000000099999"), 99999);
    rule("100000;", 2, 0);
    rule("4294967296;", 2, 0);
    rule("99999999999999999999999999;", 2, 0);
    rule("1+(1*100000);", 2, 5);
    rule("ahead+last+passed+hour+day;", 0, 0);
    for (String word : LANGUAGE) {
      if (!List.of("ahead", "last", "passed", "hour", "day", "not").contains(word)) rule(word, 1, 0);
    }
    rule("p;", 1, 0);
    doc.says("A = (or > behind <) right behind < or > belongs to it.");
    doc.due("<=", value("1<=1"), 1);
    doc.due(">=", value("1>=1"), 1);
    doc.due("<>", value("1<>1"), 0);
    rule("1< =1;", 1, 3);
    rule("1<\n=1;", 1, 3);
    rule("1> =1;", 1, 3);
    rule("1< >1;", 1, 3);
    rule("1=<1;", 1, 2);
    rule("1=>1;", 1, 2);
    rule("1==1;", 1, 2);
    rule("1><1;", 1, 2);
    rule("1>>1;", 1, 2);
    rule("1<<1;", 1, 2);
    rule("1<>=1;", 1, 3);
    rule("1<=>1;", 1, 3);
    rule("1<", 1, 2);
    rule("1<=", 1, 3);
  }

  private static void limitsOfClocksAndPeople() {
    doc.says("CLOCKS, at most 5, PEOPLE, at most 5 (each a watch): what they are OFF at first"
        + " (seconds, -36000 .. 36000; above 0: they show too much);");
    doc.fits(FIVE_CLOCKS + FIVE_PEOPLE);
    doc.fault(FIVE_CLOCKS + "clock f 0;", 2, FIVE_CLOCKS.length());
    doc.fault(FIVE_PEOPLE + "person f 0 sets;", 2, FIVE_PEOPLE.length());
    doc.due("ten things", doc.told(FIVE_CLOCKS + FIVE_PEOPLE).off(9), 0);
    doc.due("no eleventh", doc.told(FIVE_CLOCKS + FIVE_PEOPLE).off(10), NO);
    doc.due("36000", doc.told("clock c 36000;").off(0), 36000);
    doc.due("-36000", doc.told("clock c -36000;").off(0), -36000);
    doc.due("36000 of a watch", doc.told("person p 36000 sets;").off(0), 36000);
    doc.due("-36000 of a watch", doc.told("person p -36000 sets;").off(0), -36000);
    doc.fault("clock c 36001;", 2, 8);
    doc.fault("clock c -36001;", 2, 9);
    doc.fault("person p 36001 sets;", 2, 9);
    doc.fault("person p -36001 sets;", 2, 10);
    doc.says("gains: seconds an hour, -600 .. 600 (0 without);");
    doc.due("600", doc.told("clock c 0 gains 600;").clock(0, 1), 600);
    doc.due("-600", doc.told("clock c 0 gains -600;").clock(0, 1), -600);
    doc.due("600 of a watch", Sentences.look(doc.told("person p 0 sets gains 600;"), 0, 1), LOOKED + 600);
    doc.due("-600 of a watch", Sentences.look(doc.told("person p 0 sets gains -600;"), 0, 1), LOOKED - 600);
    doc.fault("clock c 0 gains 601;", 2, 16);
    doc.fault("clock c 0 gains -601;", 2, 17);
    doc.fault("person p 0 sets gains 601;", 2, 22);
    doc.fault("person p 0 sets gains -601;", 2, 23);
    PassedClocks x = doc.told("clock c 0 gains 9 rough 9;person p 0 sets gains 9 rough 9;");
    doc.due("without, behind a text with it", Sentences.text(x, "clock c 0;person p 0 sets;"), 2);
    doc.due("0 of a clock", x.clock(0, 1), 0);
    doc.due("0 of a watch", Sentences.look(x, 0, 1), LOOKED);
    doc.says("rough: by so much at most it may be otherwise at first, 0 .. 36000 (0).");
    doc.due("36000", doc.told("clock c 0 rough 36000;").clock(0, 2), 36000);
    doc.due("0", doc.told("clock c 0 rough 0;").clock(0, 2), 0);
    doc.due("36000 of a watch", Sentences.look(doc.told("person p 0 sets rough 36000;"), 0, 2), LOOKED + 36000);
    doc.fault("clock c 0 rough 36001;", 2, 16);
    doc.fault("person p 0 sets rough 36001;", 2, 22);
    doc.fault("clock c 0 rough -1;", 1, 16);
    doc.due("without: a clock", x.clock(0, 2), 0);
    doc.due("without: a watch", Sentences.look(x, 0, 2), LOOKED);
    doc.says("part: N of M: N 1 .. 60, then M from N to 60. middle: 1 .. 5.");
    doc.fits("person a 0 part 1 1;person b 0 part 1 60;person c 0 part 60 60;person d 0 part 59 60;");
    doc.fault("person p 0 part 0 1;", 2, 16);
    doc.fault("person p 0 part 61 61;", 2, 16);
    doc.fault("person p 0 part 1 0;", 2, 18);
    doc.fault("person p 0 part 5 4;", 2, 18);
    doc.fault("person p 0 part 60 59;", 2, 19);
    doc.fault("person p 0 part 1 61;", 2, 18);
    doc.fits("person p 0 middle 1;person q 0 middle 5;");
    doc.fault("person p 0 middle 0;", 2, 18);
    doc.fault("person p 0 middle 6;", 2, 18);
  }

  private static void limitsOfRoundsAndGuns() {
    doc.says("ROUNDS, at most 12: a PERSON passes a CLOCK in each week at an hour 0 .. 167.");
    doc.fits(BOTH + "round p c 0;".repeat(12));
    doc.fault(BOTH + "round p c 0;".repeat(13), 2, BOTH.length() + 144);
    doc.fits(BOTH + "round p c 0;round p c 167;");
    doc.fault(BOTH + "round p c 168;", 2, 36);
    doc.fault(BOTH + "round p c -1;", 1, 36);
    doc.due("hour 0 and 168", doc.after(169, BOTH + "round p c 0;").count(8), 2);
    doc.due("hour 167 and 335", doc.after(336, BOTH + "round p c 167;").count(8), 2);
    doc.says("GUNS, at most 3: a CLOCK, an hour 0 .. 167.");
    doc.fits(BOTH + "gun c 0;gun c 167;gun c 0;");
    doc.fault(BOTH + "gun c 0;".repeat(4), 2, BOTH.length() + 24);
    doc.fault(BOTH + "gun c 168;", 2, 32);
    doc.fault(BOTH + "gun c -1;", 1, 32);
    doc.fault(BOTH + "gun p 1;", 4, 30);
    doc.due("hour 167", doc.after(168, "clock c 9;gun c 167;").off(0), 0);
    doc.due("ahead of it", doc.after(167, "clock c 9;gun c 167;").off(0), 9);
    doc.says("All numbered as they come; CLOCKS, PEOPLE have names of their kind.");
    PassedClocks x = doc.told("person b 1 sets;clock b 3;person a 2 sets;clock a 4;round a b 9;gun a 1;round b a 8;");
    doc.due("clock b", x.clock(0, 0), 3);
    doc.due("clock a", x.clock(1, 0), 4);
    doc.due("watch b", x.off(2), 1);
    doc.due("watch a", x.off(3), 2);
    doc.due("round 0", x.round(0, 2), 9);
    doc.due("round 1", x.round(1, 2), 8);
    doc.due("clock b by name", x.named(0, Sentences.letters("b")), 0);
    doc.due("person a by name", x.named(1, Sentences.letters("a")), 1);
    doc.fits("clock c 1;person c 1 sets;round c c 1;");
  }

  private static void order() {
    doc.says("FAULTS, the first along the text (of one place the least), with its place:");
    doc.fault("clock c 36001;clock c 1;?", 2, 8);
    doc.fault("clock c 1;clock c 36001;?", 3, 16);
    doc.fault("clock c 1;gun d 168;?", 4, 14);
    doc.fault("? clock c 36001;", 1, 0);
    doc.fault("clock clock 36001;", 1, 6);
    // A sign that can't stand there and is the 65th knot, or the ninth '(' too.
    rule(FULL + " not", 1, FULL.length() + 1);
    rule(FULL + " ahead", 1, FULL.length() + 1);
    rule(FULL + " 1", 1, FULL.length() + 1);
    rule("not 1" + "+1".repeat(30) + "<1=1", 1, 5 + 62);
    rule("((((((((1(", 1, 9);
    // A number that can't stand there and is beyond all, a word that can't and was told already.
    doc.fault("clock 99999 1;", 1, 6);
    doc.fault("clock c 1 99999;", 1, 10);
    rule("1 100000;", 1, 2);
    rule("1+if", 1, 2);
    doc.fault("clock c 1 gains gains", 1, 16);
    // A word of more than six letters that is not told ahead, too.
    doc.fault(BOTH + "gun abcdefg 1;", 1, 30);
    doc.fault(BOTH + "gun gun 1;", 1, 30);
    // Too many of them and a name told already: the word of the line comes first.
    doc.fault(FIVE_CLOCKS + "clock a 0;", 2, FIVE_CLOCKS.length());
    doc.fault(BOTH + "gun c 0;".repeat(3) + "gun d 0;", 2, BOTH.length() + 24);
    // A 65th knot that is a number beyond 99999.
    rule(FULL + "+100000;", 2, FULL.length());
    rule("not " + NEARLY.substring(0, NEARLY.length() - 1) + "100000;", 2, 4 + NEARLY.length() - 1);
  }

  private static void misplaced() {
    doc.says("1 a TOKEN that is none (a word of more than 6 letters, too) or can't stand there (the length, if more must come).");
    for (String none : new String[] {"?", "!", "A", "_", "\t", "\r", "\0", "\u007f", "\u0080", "\u00ff", "\"", "'", ",", "."}) {
      doc.fault(none, 1, 0);
      doc.fault("clock c 1;" + none, 1, 10);
      rule("1+" + none, 1, 2);
    }
    doc.fault("persons p 1 sets;", 1, 0);
    doc.fault("clock c 1 roughly 1;", 1, 10);
    rule("aheadof;", 1, 0);
    rule("1 and aheadof;", 1, 6);
    doc.fault("clock abcdef", 1, 12);
    doc.fault("clock abcdefg", 1, 6);
    doc.fault("gains 1;", 1, 0);
    doc.fault("1;", 1, 0);
    doc.fault("<=", 1, 0);
    doc.fault("clock", 1, 5);
    doc.fault("clock \n ", 1, 8);
    doc.fault("person p 0 sets", 1, 15);
    rule("", 1, 0);
    rule("1", 1, 1);
    rule("1   ", 1, 4);
    rule("((1)", 1, 4);
    doc.fault("clock c 1;" + " ".repeat(685) + "clock", 1, 700);
    doc.fault("clock c 1;" + " ".repeat(689) + "<", 1, 699);
    // As many tokens as there can be.
    doc.fault(";".repeat(700), 1, 0);
    rule("(".repeat(8) + ")".repeat(700 - RULED.length() - 8), 1, 8);
    PassedClocks x = new PassedClocks();
    Sentences.feed(x, "clock abcdefg 360001");
    doc.due("the text ends within a word", x.text(12), -1);
    doc.due("of six letters", x.fault(1), 12);
    Sentences.feed(x, "clock abcdefg 360001");
    doc.due("the text ends within a word", x.text(13), -1);
    doc.due("of seven letters", x.fault(1), 6);
    Sentences.feed(x, "clock c 360001;");
    doc.due("the text ends within a number", x.text(13), -1);
    doc.due("that is not beyond", x.fault(0), 1);
    doc.due("at the length", x.fault(1), 13);
  }

  private static void tooMuch() {
    doc.says("2 too much (at it): a number beyond what is said, a sixth clock and so on (at the word of the LINE),"
        + " a ninth '(' open, a 65th KNOT of all E (N, NAMES, signs, not, and, or: one each).");
    doc.fault("clock c 36001", 2, 8);
    doc.fault("clock c -  36001", 2, 11);
    doc.fault("clock c 2147483648;", 2, 8);
    doc.fault("clock c 4294967297;", 2, 8);
    doc.fault("clock c 18446744073709551617;", 2, 8);
    doc.fault("clock c 1" + "0".repeat(600) + ";", 2, 8);
    doc.fault(FIVE_CLOCKS + "clock", 2, FIVE_CLOCKS.length());
    doc.fault(FIVE_CLOCKS + "\n clock ?", 2, FIVE_CLOCKS.length() + 2);
    doc.fault(FIVE_PEOPLE + "person", 2, FIVE_PEOPLE.length());
    doc.fault(BOTH + "round p c 0;".repeat(12) + "round", 2, BOTH.length() + 144);
    doc.fault(BOTH + "gun c 0;".repeat(3) + "gun", 2, BOTH.length() + 24);
    rule("((((((((1))))))));", 0, 0);
    rule("(((((((((1)))))))));", 2, 8);
    rule("((((((((1))))))))+((((((((1))))))));", 0, 0);
    rule("(((((((1)+(((1", 2, 12);
    rule("(1)*(((((((((1", 2, 12);
    String[] one = {"1", "99999", "ahead", "last", "passed", "hour", "day", "(1)", "((day))"};
    for (String e : one) doc.due("knots of " + e, doc.told(RULED + e + ";").count(7), 1);
    doc.due("knots of not", doc.told(RULED + "not 1;").count(7), 2);
    for (String sign : new String[] {"<", "<=", "=", "<>", ">=", ">", "+", "-", "*", "/", " and ", " or "}) {
      doc.due("knots of" + sign, doc.told(RULED + "1" + sign + "1;").count(7), 3);
      doc.due("64 and a sign", Sentences.text(new PassedClocks(), RULED + FULL + sign + "1;"), -1);
      rule(FULL + sign + "1;", 2, FULL.length() + (sign.startsWith(" ") ? 1 : 0));
    }
    doc.due("64 knots", doc.told(RULED + FULL + ";").count(7), 64);
    rule("not ".repeat(63) + "1;", 0, 0);
    rule("not ".repeat(64) + "1;", 2, 256);
    rule("not ".repeat(65) + "1;", 2, 256);
    rule(FULL + " gains 5;", 0, 0);
    String others = "not " + NEARLY + ";person q 0 sets if ";
    for (String e : new String[] {"1", "ahead", "not 1", "(((1"}) rule(others + e, 2, others.length() + e.lastIndexOf('(') + 1);
    String nearly = NEARLY + ";person q 0 sets if ";
    rule(nearly + "1;", 0, 0);
    rule(nearly + "1+1;", 2, nearly.length() + 1);
    rule(nearly + "not 1;", 2, nearly.length() + 4);
    PassedClocks x = doc.told(RULED + FULL + ";");
    doc.due("64 more in another text", Sentences.text(x, RULED + FULL + ";"), 1);
    doc.due("a fault behind 64", Sentences.text(x, RULED + FULL + "?"), -1);
    doc.due("64 more behind it", Sentences.text(x, RULED + FULL + ";"), 1);
  }

  private static void toldAlready() {
    doc.says("3 told already: a name of its kind (at W), gains, rough, if (at the word).");
    doc.fault("clock c 1;clock c 1;", 3, 16);
    doc.fault("clock c 1;clock c", 3, 16);
    doc.fault("person p 1 sets;person p 1 sets;", 3, 23);
    doc.fault("clock abcdef 1;clock abcde 1;clock abcdef 1;", 3, 35);
    doc.fits("clock c 1;person c 1 sets;");
    doc.fault("clock c 1 gains 1 gains 1;", 3, 18);
    doc.fault("clock c 1 gains 0 rough 1 gains", 3, 26);
    doc.fault("clock c 1 rough 0 rough 0;", 3, 18);
    doc.fault("person p 1 sets gains 1 gains 1;", 3, 24);
    doc.fault("person p 1 sets rough 1 if 1 rough 1;", 3, 29);
    doc.fault("person p 1 sets if 1 if 1;", 3, 21);
    doc.fault("person p 1 sets if 0 gains 1 rough 1 if", 3, 37);
    doc.fits("clock c 1 gains 1;clock d 1 gains 1;");
    doc.fits("person p 1 sets if 1;person q 1 sets if 1;");
  }

  private static void notTold() {
    doc.says("4 a CLOCK, PERSON that isn't told ahead (at W).");
    doc.fault("gun c 1;clock c 1;", 4, 4);
    doc.fault("round p c 1;" + BOTH, 4, 6);
    doc.fault("person p 1 sets;round p c 1;clock c 1;", 4, 24);
    doc.fault(BOTH + "round c c 1;", 4, 32);
    doc.fault(BOTH + "round p p 1;", 4, 34);
    doc.fault(BOTH + "round pp c 1;", 4, 32);
    doc.fault(BOTH + "gun p 1;", 4, 30);
    doc.fault(BOTH + "gun d", 4, 30);
    PassedClocks x = doc.told(BOTH);
    doc.due("told by a text ahead alone", Sentences.text(x, "gun c 1;"), -1);
    doc.due("that is not told", x.fault(0), 4);
  }

  private static void newObject() {
    doc.section("Promise 1");
    doc.says("No TEXT, HOUR 0 is next, no READINGS, IMAGE; an empty TAPE.");
    PassedClocks x = new PassedClocks();
    doc.due("NONE", PassedClocks.NONE, -1);
    for (int what = 0; what < 9; what++) doc.due("count(" + what + ")", x.count(what), 0);
    doc.due("text(1)", x.text(1), -2);
    doc.due("named", x.named(0, Sentences.letters("a")), -1);
    doc.due("named of no letters", x.named(0, 0), -1);
    doc.due("named of no letters", x.named(1, 0), -1);
    doc.due("look", Sentences.look(x, 0, 0), Sentences.INDEX);
    doc.due("clock", x.clock(0, 0), NO);
    doc.due("round", x.round(0, 0), -1);
    doc.due("off", x.off(0), NO);
    doc.due("now", x.now(0, 0), NO);
    doc.due("was", x.was(0, 0), NO);
    doc.due("spread", x.spread(0), -1);
    doc.due("pass", x.pass(0, 0), NO);
    doc.due("row", x.row(0, 0, 0, 0), NO);
    doc.due("rule", x.rule(0, 0, 0, 0, 0), Long.MIN_VALUE);
    doc.due("moved", x.moved(0, 0, 0), NO);
    doc.due("ends", x.ends(0, 0), NO);
    doc.due("reading", x.reading(0, 0, 0, 0), -1);
    doc.due("judged", x.judged(), -1);
    doc.due("wrong", x.wrong(0), -1);
    doc.due("way", x.way(0, 0), NO);
    doc.due("known(0)", Sentences.is(x.known(0)), 1);
    doc.due("known(1)", Sentences.is(x.known(1)), 0);
    doc.due("tried", x.tried(5, 0), 0);
    doc.due("other", x.other(5, 0, 0), NO);
    doc.due("agree", x.agree(0), -1);
    doc.due("often", x.often(0, 0), -1);
    doc.due("fewest", x.fewest(0, 0), 0);
    doc.due("purpose", x.purpose(0, 0, 0, true, 0), NO);
    doc.due("waits", x.waits(0, 0), NO);
    doc.due("back", x.back(), -1);
    doc.due("fault", x.fault(0), 0);
    doc.due("its place", x.fault(1), -1);
    doc.due("text(0)", x.text(0), 0);
    doc.due("hours(1)", x.hours(1), 1);
    doc.due("with an hour, nothing", x.off(0), NO);
    doc.due("with an hour, nothing", x.was(0, 0), NO);
    doc.due("with an hour, nothing", x.spread(0), -1);
    doc.due("with an hour, nothing", x.agree(100000), -1);
    doc.due("with an hour, nothing", x.row(0, 0, 0, 0), NO);
    doc.due("with an hour, nothing", x.purpose(0, 0, 0, true, 0), NO);
    x = new PassedClocks();
    doc.due("hours ahead of any text", x.hours(7), 7);
    doc.due("tried ahead of any text", x.tried(6, 0), 0);
    doc.due("nothing is there", x.spread(6), -1);
    doc.due("keep ahead of any text", x.keep(), 7);
    doc.due("back ahead of any text", x.back(), 7);
    doc.due("fewest ahead of any text", x.fewest(0, 1), 0);
  }

  private static void feeding() {
    doc.section("Promise 2");
    doc.says("Twenty bytes come behind the TAPE, four of each number, the highest first: how many it has;");
    PassedClocks x = new PassedClocks();
    doc.due("feed", x.feed(0x636c6f63, 0x6b206320, 0x2d313233, 0x3b636c6f, 0x636b2064), 20);
    doc.due("feed", x.feed(0x20343b20, 0x20202020, 0x20202020, 0x20202020, 0x202020ff), 40);
    doc.due("\"clock c -123;clock d 4;\"", x.text(23), 2);
    doc.due("c", x.clock(0, 0), -123);
    doc.due("d", x.clock(1, 0), 4);
    doc.due("feed of bytes above 127", x.feed(-1, -1, -1, -1, -1), 20);
    doc.due("none of them is a token", x.text(20), -1);
    doc.due("at 0", x.fault(1), 0);
    doc.due("feed", x.feed(0x20202020, 0x20202020, 0x20202020, 0x20202020, 0x20202020), 20);
    doc.due("feed", x.feed(0x0a0a0a0a, 0x0a0a0a0a, 0x0a0a0a0a, 0x0a0a0a0a, 0x0a0a0a80), 40);
    doc.due("the last byte lowest", x.text(40), -1);
    doc.due("at 39", x.fault(1), 39);
    doc.says("NONE, and none come, if it would have more than 700.");
    x = new PassedClocks();
    for (int i = 1; i <= 35; i++) doc.due("feed " + i, x.feed(0x20202020, 0x20202020, 0x20202020, 0x20202020, 0x20202020), 20 * i);
    doc.due("feed 36", x.feed(0x3b3b3b3b, 0x3b3b3b3b, 0x3b3b3b3b, 0x3b3b3b3b, 0x3b3b3b3b), -1);
    doc.due("feed 37", x.feed(0, 0, 0, 0, 0), -1);
    doc.due("701 bytes", x.text(701), -2);
    doc.due("720 bytes", x.text(720), -2);
    doc.due("700 bytes, all blank", x.text(700), 0);
    doc.due("then there is room", x.feed(0, 0, 0, 0, 0), 20);
  }

  private static void texts() {
    doc.section("Promise 3");
    doc.says("The TAPE's first n bytes (it is empty then) are the TEXT");
    PassedClocks x = new PassedClocks();
    Sentences.feed(x, "clock c 1;clock d 1;person p 1 sets;");
    doc.due("the first line alone", x.text(10), 1);
    doc.due("one clock", x.count(0), 1);
    doc.due("the rest is gone", x.text(1), -2);
    doc.due("the tape begins anew", Sentences.feed(x, "clock e 2;"), 20);
    doc.due("text(0) of it", x.text(0), 0);
    doc.due("nothing is told", x.count(0), 0);
    doc.due("the tape is empty", x.text(1), -2);
    doc.due("text(0) of nothing", x.text(0), 0);
    Sentences.feed(x, "clock c 1;?");
    doc.due("a fault", x.text(11), -1);
    doc.due("the tape is empty, too", x.text(1), -2);
    doc.says("(HOUR 0 is next, no READINGS, IMAGE, all KNOWN then): how many LINES;");
    x = doc.told("clock c 1;person p 1 middle 3;round p c 0;gun c 1;");
    used(x);
    doc.due("lines", Sentences.text(x, "clock c 7;person p 9 sets if 1;"), 2);
    doc.due("hour", x.count(6), 0);
    doc.due("readings", x.count(4), 0);
    doc.due("image", x.back(), -1);
    doc.due("passings", x.count(8), 0);
    doc.due("rounds", x.count(2), 0);
    doc.due("guns", x.count(3), 0);
    doc.due("off", x.off(0), 7);
    doc.due("not gone by", x.was(0, 0), NO);
    doc.due("last", x.now(0, 0), 0);
    doc.due("passed", x.now(0, 1), 0);
    doc.due("kept", x.now(0, 2), 0);
    doc.due("judged", x.judged(), -1);
    x.reading(0, 0, 7, 7);
    x.reading(0, 0, 7, 7);
    doc.due("all known", x.count(5), 2);
    doc.due("the same text again", Sentences.text(x, "clock c 7;person p 9 sets if 1;"), 2);
    doc.due("readings", x.count(4), 0);
    doc.due("no line", Sentences.text(x, "\n"), 0);
    doc.due("nothing is told", x.off(0), NO);
    doc.due("knots", x.count(7), 0);
    doc.says("NONE with a FAULT, all stays;");
    x = doc.told(BOTH + "round p c 0;gun c 1;");
    used(x);
    doc.due("a fault behind good lines", Sentences.text(x, "clock z 5;person y 3 takes if 1+1;round y z 1;gun z 1;?"), -1);
    doc.due("clock", x.clock(0, 0), 1);
    doc.due("clocks", x.count(0), 1);
    doc.due("people", x.count(1), 1);
    doc.due("rounds", x.count(2), 1);
    doc.due("guns", x.count(3), 1);
    doc.due("readings", x.count(4), 2);
    doc.due("known", x.count(5), 1);
    doc.due("hour", x.count(6), 12);
    doc.due("knots", x.count(7), 0);
    doc.due("passings", x.count(8), 2);
    doc.due("name", x.named(0, Sentences.letters("c")), 0);
    doc.due("new name", x.named(0, Sentences.letters("z")), -1);
    doc.due("custom", Sentences.look(x, 0, 3), LOOKED);
    doc.due("rule", Sentences.look(x, 0, 6), LOOKED);
    doc.due("off", x.off(0), 1);
    doc.due("was", x.was(0, 1), 0);
    doc.due("image", x.back(), 10);
    doc.due("hours go on", x.hours(1), 11);
    doc.due("a fault of a text with all kinds of lines", Sentences.text(x, "clock a 5 gains 6 rough 7;clock b 5 gains 6 rough 7;"
        + "person a 5 part 1 2 gains 6 rough 7 if 1;person b 5 part 1 2 gains 6 rough 7 if 1;round b b 1;gun b 1;?"), -1);
    doc.due("nothing of it is in the next one", Sentences.text(x, "clock a 5;clock b 5;person a 5 sets;person b 5 sets;"), 4);
    for (int what : new int[] {2, 3, 7}) doc.due("count(" + what + ")", x.count(what), 0);
    for (int i = 0; i < 2; i++) {
      doc.due("gain", x.clock(i, 1), 0);
      doc.due("rough", x.clock(i, 2), 0);
      for (int what : new int[] {1, 2, 3, 4, 5, 6}) doc.due("look(" + i + ", " + what + ")", Sentences.look(x, i, what), LOOKED);
    }
    doc.says("-2, and the TAPE stays: there are not so many, n is below 0.");
    x = doc.told("clock c 1;");
    Sentences.feed(x, "clock d 2;clock e 3;");
    doc.due("text(21)", x.text(21), -2);
    doc.due("text(700)", x.text(700), -2);
    doc.due("text(-1)", x.text(-1), -2);
    doc.due("the least n", x.text(Integer.MIN_VALUE), -2);
    doc.due("the greatest n", x.text(Integer.MAX_VALUE), -2);
    doc.due("all stays", x.clock(0, 0), 1);
    doc.due("the tape stays", x.text(20), 2);
    doc.due("its text", x.clock(1, 0), 3);
  }

  /** Twelve hours, two passings, two readings of which one is known, an image of hour 10. */
  private static void used(PassedClocks x) {
    x.hours(10);
    x.keep();
    x.hours(2);
    x.pass(0, 0);
    x.reading(0, 1, 5, 9);
    x.reading(0, 1, 5, 9);
    x.known(1);
  }

  private static void faults() {
    doc.section("Promise 4");
    doc.says("Of the latest text() that was not -2, what 0: its FAULT (0), 1: its place (NONE without).");
    PassedClocks x = new PassedClocks();
    doc.due("ahead of any", x.fault(0), 0);
    doc.due("ahead of any", x.fault(1), -1);
    x.text(5);
    doc.due("-2 is none", x.fault(0), 0);
    doc.due("-2 has no place", x.fault(1), -1);
    Sentences.text(x, "clock c 36001;");
    doc.due("a fault", x.fault(0), 2);
    doc.due("its place", x.fault(1), 8);
    x.text(-1);
    x.text(1);
    doc.due("of the latest that was not -2", x.fault(0), 2);
    doc.due("its place", x.fault(1), 8);
    Sentences.text(x, "gun c 1;");
    doc.due("another fault", x.fault(0), 4);
    doc.due("its place", x.fault(1), 4);
    Sentences.text(x, "?");
    doc.due("a fault at 0", x.fault(0), 1);
    doc.due("place 0", x.fault(1), 0);
    Sentences.text(x, "clock c 1;");
    doc.due("without", x.fault(0), 0);
    doc.due("NONE without", x.fault(1), -1);
    doc.says("NONE for another what.");
    Sentences.text(x, "gun c 1;");
    for (int what : new int[] {-1, 2, Integer.MAX_VALUE, Integer.MIN_VALUE}) doc.due("fault(" + what + ")", x.fault(what), -1);
  }

  private static void names() {
    doc.section("Promise 5");
    doc.says("The number of a CLOCK (what 0), PERSON (1) by its letters, 5 bits each (a is 1; the first one highest of six, 0 behind the last one);");
    PassedClocks x = doc.told("clock a 0;clock abcdef 0;clock zzzzzz 0;person z 0 sets;person zz 0 sets;person a 0 sets;");
    doc.due("a", x.named(0, 1 << 25), 0);
    doc.due("abcdef", x.named(0, 1 << 25 | 2 << 20 | 3 << 15 | 4 << 10 | 5 << 5 | 6), 1);
    doc.due("zzzzzz", x.named(0, 26 << 25 | 26 << 20 | 26 << 15 | 26 << 10 | 26 << 5 | 26), 2);
    doc.due("person z", x.named(1, 26 << 25), 0);
    doc.due("person zz", x.named(1, 26 << 25 | 26 << 20), 1);
    doc.due("person a", x.named(1, 1 << 25), 2);
    doc.says("NONE: there is none such.");
    doc.due("clock z", x.named(0, 26 << 25), -1);
    doc.due("person abcdef", x.named(1, Sentences.letters("abcdef")), -1);
    doc.due("abcde", x.named(0, Sentences.letters("abcde")), -1);
    doc.due("no letters", x.named(0, 0), -1);
    doc.due("a as the last of six", x.named(0, 1), -1);
    doc.due("a with the 31st bit", x.named(0, 1 << 25 | 1 << 30), -1);
    doc.due("a with the 32nd bit", x.named(0, 1 << 25 | 1 << 31), -1);
    doc.due("a with a gap", x.named(0, 1 << 25 | 1), -1);
    doc.due("what 2", x.named(2, 1 << 25), -1);
    doc.due("what -1", x.named(-1, 1 << 25), -1);
    Sentences.text(x, "clock b 0;");
    doc.due("of another text", x.named(0, 1 << 25), -1);
    doc.due("person of another text", x.named(1, 1 << 25), -1);
  }

  private static void looks() {
    doc.section("Promise 6");
    doc.says("Of a PERSON, what 0 OFF at first, 1 GAIN, 2 rough, 3 CUSTOM (0 sets, 1 takes, 2 half, 3 part, 4 middle),"
        + " 4, 5 its numbers (0 without), 6 whether there is a rule (1, 0).");
    String s = "clock c 9 gains 8 rough 8;person a 1 sets gains 2 rough 3;person b -4 takes if 0 gains -5 rough 6;person d 5 half;"
        + "person e 6 part 7 8;person f 9 middle 5 if 1;";
    PassedClocks x = doc.told(s);
    int[][] people = {{1, 2, 3, 0, 0, 0, 0}, {-4, -5, 6, 1, 0, 0, 1}, {5, 0, 0, 2, 0, 0, 0}, {6, 0, 0, 3, 7, 8, 0}, {9, 0, 0, 4, 5, 0, 1}};
    for (int person = 0; person < 5; person++) {
      for (int what = 0; what < 7; what++) doc.due("look(" + person + ", " + what + ")", Sentences.look(x, person, what), LOOKED + people[person][what]);
    }
    x.hours(3);
    doc.due("OFF at first", Sentences.look(x, 0, 0), LOOKED + 1);
    Sentences.text(x, "person p 0 sets;person q 0 middle 1;");
    for (int what = 4; what < 7; what++) doc.due("of another text", Sentences.look(x, 0, what), LOOKED);
    doc.due("of another text", Sentences.look(x, 1, 5), LOOKED);
    doc.says("IndexOutOfBoundsException: no such PERSON.");
    for (int person : new int[] {-1, 2, 4, 5, Integer.MAX_VALUE, Integer.MIN_VALUE}) {
      doc.due("look(" + person + ", 0)", Sentences.look(x, person, 0), Sentences.INDEX);
      doc.due("look(" + person + ", 7)", Sentences.look(x, person, 7), Sentences.INDEX);
    }
    doc.due("nobody is told", Sentences.look(doc.told("clock c 1;"), 0, 0), Sentences.INDEX);
    doc.says("NoSuchElementException: no such what.");
    for (int what : new int[] {-1, 7, Integer.MAX_VALUE, Integer.MIN_VALUE}) {
      doc.due("look(0, " + what + ")", Sentences.look(x, 0, what), Sentences.ELEMENT);
    }
  }

  private static void clocks() {
    doc.section("Promise 7");
    doc.says("Of a CLOCK, what 0 OFF at first, 1 GAIN, 2 rough.");
    PassedClocks x = doc.told("clock a 1 gains -2 rough 3;person p 9 sets;clock b -4;");
    for (int what = 0; what < 3; what++) {
      doc.due("clock(0, " + what + ")", x.clock(0, what), new int[] {1, -2, 3}[what]);
      doc.due("clock(1, " + what + ")", x.clock(1, what), new int[] {-4, 0, 0}[what]);
    }
    x.hours(5);
    doc.due("at first", x.clock(0, 0), 1);
    doc.says("Integer.MIN_VALUE: no such ones.");
    for (int clock : new int[] {-1, 2, 5, Integer.MAX_VALUE, Integer.MIN_VALUE}) doc.due("clock(" + clock + ", 0)", x.clock(clock, 0), NO);
    for (int what : new int[] {-1, 3, Integer.MAX_VALUE, Integer.MIN_VALUE}) doc.due("clock(0, " + what + ")", x.clock(0, what), NO);
  }

  private static void rounds() {
    doc.section("Promise 8");
    doc.says("Of a ROUND, what 0 PERSON, 1 CLOCK, 2 hour.");
    PassedClocks x = doc.told("clock a 0;clock b 0;person p 0 sets;person q 0 sets;round q a 167;round p b 0;");
    for (int what = 0; what < 3; what++) {
      doc.due("round(0, " + what + ")", x.round(0, what), new int[] {1, 0, 167}[what]);
      doc.due("round(1, " + what + ")", x.round(1, what), new int[] {0, 1, 0}[what]);
    }
    doc.due("the twelfth", doc.told(BOTH + "round p c 0;".repeat(11) + "round p c 9;").round(11, 2), 9);
    doc.says("NONE: no such ones.");
    for (int round : new int[] {-1, 2, 12, Integer.MAX_VALUE, Integer.MIN_VALUE}) doc.due("round(" + round + ", 2)", x.round(round, 2), -1);
    for (int what : new int[] {-1, 3, Integer.MAX_VALUE, Integer.MIN_VALUE}) doc.due("round(0, " + what + ")", x.round(0, what), -1);
    doc.due("a thirteenth", doc.told(BOTH + "round p c 0;".repeat(12)).round(12, 0), -1);
    Sentences.text(x, BOTH);
    doc.due("of another text", x.round(0, 2), -1);
  }
}
