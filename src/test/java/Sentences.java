import java.io.IOException;
import java.nio.file.Files;
import java.nio.file.Path;
import java.util.ArrayList;
import java.util.BitSet;
import java.util.LinkedHashMap;
import java.util.List;
import java.util.Map;
import java.util.NoSuchElementException;

/**
 * The document's sentences, each told beside what is due by it. At the end nothing of the asked sections may be without
 * a sentence told here, and no sentence without a check.
 */
final class Sentences {
  static final int NO = Integer.MIN_VALUE;
  static final long ERROR = Long.MIN_VALUE;
  static final int INDEX = 1;
  static final int ELEMENT = 2;
  static final int LOOKED = 1000000;

  private final Map<String, String> sections = new LinkedHashMap<>();
  private final Map<String, BitSet> told = new LinkedHashMap<>();
  private String section = "";
  private String sentence = "";
  private int checks = 1;
  private int wrong = 0;

  Sentences() {
    String name = "";
    StringBuilder body = new StringBuilder();
    for (String line : document()) {
      String next = line.startsWith("## ") ? line.substring(3).replaceAll(":.*", "") : nextTerms(line);
      if (next != null) {
        put(name, body);
        name = next.equals("Terms") ? "Terms 1" : next;
        body = new StringBuilder();
      }
      if (!line.startsWith("#") && !line.startsWith("```")) {
        body.append(line.replaceAll("^==== \\d\\. ", "").strip()).append(' ');
      }
    }
    put(name, body);
  }

  private static List<String> document() {
    try {
      return Files.readAllLines(Path.of("../shared/DOC.md"));
    } catch (IOException e) {
      throw new IllegalStateException("no ../shared/DOC.md beside the checkout");
    }
  }

  private static String nextTerms(String line) {
    return line.matches("==== \\d\\. .*") ? "Terms " + line.charAt(5) : null;
  }

  /** A promise's section tells its call first, which is no sentence. */
  private void put(String name, StringBuilder body) {
    String text = body.toString().replaceAll("\\s+", " ").strip();
    sections.put(name, name.startsWith("Promise ") ? text.replaceFirst("^`[^`]*`: ", "") : text);
    told.put(name, new BitSet());
  }

  void section(String name) {
    section = name;
    if (!sections.containsKey(name)) fail("the document has no section " + name);
  }

  /** What follows is due by this sentence of the section. */
  void says(String words) {
    endSentence();
    sentence = words;
    checks = 0;
    String text = sections.getOrDefault(section, "");
    int at = text.indexOf(words);
    if (at < 0) fail("the section doesn't say so");
    else told.get(section).set(at, at + words.length());
  }

  private void endSentence() {
    if (checks == 0) fail("nothing is checked");
  }

  private void fail(String what) {
    wrong++;
    System.out.println(section + ", \"" + sentence + "\": " + what);
  }

  void due(String call, long got, long want) {
    checks++;
    if (got != want) fail(call + " answered " + got + ", due is " + want);
  }

  /** Ends the program with 1 if something was wrong or something of these sections was not told. */
  void end(List<String> asked) {
    endSentence();
    sentence = "";
    for (String name : asked) {
      section = name;
      for (String left : leftOf(name)) fail("no test tells: " + left);
    }
    System.out.println(wrong == 0 ? "all sentences hold" : wrong + " things are not as due");
    if (wrong != 0) System.exit(1);
  }

  private List<String> leftOf(String name) {
    String text = sections.getOrDefault(name, "no such section");
    BitSet bits = told.getOrDefault(name, new BitSet());
    List<String> left = new ArrayList<>();
    for (int from = bits.nextClearBit(0); from < text.length(); from = bits.nextClearBit(from)) {
      int until = bits.nextSetBit(from);
      if (until < 0) until = text.length();
      String piece = text.substring(from, until).strip();
      if (!piece.isEmpty()) left.add(piece);
      from = until;
    }
    return left;
  }

  static int feed(PassedClocks x, String s) {
    StringBuilder b = new StringBuilder(s);
    while (b.length() % 20 != 0) b.append(' ');
    int answer = 0;
    for (int i = 0; i < b.length(); i += 20) {
      int[] v = new int[5];
      for (int k = 0; k < 20; k++) v[k / 4] = v[k / 4] << 8 | b.charAt(i + k);
      answer = x.feed(v[0], v[1], v[2], v[3], v[4]);
    }
    return answer;
  }

  static int text(PassedClocks x, String s) {
    feed(x, s);
    return x.text(s.length());
  }

  static int linesOf(String s) {
    return (int) s.chars().filter(c -> c == ';').count();
  }

  PassedClocks told(String s) {
    PassedClocks x = new PassedClocks();
    int lines = text(x, s);
    if (lines != linesOf(s)) fail("text \"" + s + "\" has a fault " + x.fault(0) + " at " + x.fault(1));
    return x;
  }

  PassedClocks after(int hours, String s) {
    PassedClocks x = told(s);
    goTo(x, hours);
    return x;
  }

  void goTo(PassedClocks x, int hour) {
    while (x.count(6) < hour) x.hours(Math.min(500, hour - x.count(6)));
    if (x.count(6) != hour) fail("the hours don't go by");
  }

  void fits(String s) {
    fault(s, 0, -1);
  }

  void fault(String s, int fault, int place) {
    PassedClocks x = new PassedClocks();
    due("text of \"" + s + "\"", text(x, s), fault == 0 ? linesOf(s) : -1);
    due("fault of \"" + s + "\"", x.fault(0), fault);
    due("its place in \"" + s + "\"", x.fault(1), place);
  }

  static int letters(String s) {
    int v = 0;
    for (int i = 0; i < 6; i++) v = v << 5 | (i < s.length() ? s.charAt(i) - 'a' + 1 : 0);
    return v;
  }

  static int look(PassedClocks x, int person, int what) {
    try {
      return LOOKED + x.look(person, what);
    } catch (IndexOutOfBoundsException e) {
      return INDEX;
    } catch (NoSuchElementException e) {
      return ELEMENT;
    }
  }

  static int is(boolean holds) {
    return holds ? 1 : 0;
  }
}
