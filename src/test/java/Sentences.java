import java.io.IOException;
import java.nio.file.Files;
import java.nio.file.Path;
import java.util.Arrays;

/**
 * Tests that stand under the document's own words: each names the words that it is for, which must stand in the
 * document's section, and each word of a section must be named by a test.
 */
abstract class Sentences extends Bench {
  private static final Path DOCUMENT = Path.of("../shared/DOC.md");
  private static String name;
  private static String text;
  private static boolean[] named;
  private static int tests = 0;

  static int tests() { return tests; }

  /** The document in one line, without its marks for code. */
  static String document() {
    try {
      return Files.readString(DOCUMENT).replace("```text", " ").replace("```", " ").replaceAll("\\s+", " ");
    } catch (IOException e) {
      throw new IllegalStateException("no " + DOCUMENT, e);
    }
  }

  static String between(String all, String from, String to) {
    int start = all.indexOf(from);
    int end = all.indexOf(to, Math.max(0, start));
    if (start < 0 || end < 0) throw new IllegalStateException("not in the document: " + from + " .. " + to);
    return all.substring(start + from.length(), end);
  }

  static void open(String section, String words) {
    name = section;
    text = words;
    named = new boolean[words.length()];
  }

  /** Opens the section of a promise, its heading and its call aside. */
  static void promise(int number) {
    String all = document();
    String next = number < 49 ? "## Promise " + (number + 1) + ":" : "## Not promised";
    String section = between(all, "## Promise " + number + ":", next);
    open("promise " + number, section.substring(section.indexOf("`: ") + 3));
  }

  /** Each time that words come again in a section they need a test again. */
  private static void mark(String words) {
    int at = text.indexOf(words);
    while (at >= 0 && named[at]) at = text.indexOf(words, at + 1);
    due("the words' place in the section is known", at >= 0, true);
    if (at >= 0) Arrays.fill(named, at, at + words.length(), true);
  }

  static void says(String words, Runnable test) {
    heading(name + ", '" + words + "'");
    mark(words);
    int ahead = checks();
    test.run();
    due("something is looked at", checks() > ahead, true);
    tests++;
  }

  static void close() {
    heading(name);
    StringBuilder rest = new StringBuilder();
    for (int i = 0; i < named.length; i++) {
      if (!named[i]) rest.append(text.charAt(i));
      else if (rest.length() > 0 && rest.charAt(rest.length() - 1) != '|') rest.append('|');
    }
    due("words without a test", rest.toString().replaceAll("[^A-Za-z0-9|]+", " ").replaceAll("[| ]+", " ").trim(), "");
  }

  /** Numbers beyond a range: next to it, far from it, and such as would be in it if their upper bits were lost. */
  static int[] beyond(int low, int high) {
    int[] all = {low - 1, high + 1, low - 2, high + 2, low - 256, high + 256, low + 65536, high - 65536, low + (1 << 30),
        Integer.MIN_VALUE, Integer.MIN_VALUE + Math.max(0, low), Integer.MAX_VALUE};
    return Arrays.stream(all).filter(n -> n < low || n > high).toArray();
  }

  /** All that can be asked of what an object holds. */
  static String state(PianolaRolls p) {
    StringBuilder s = new StringBuilder("about");
    for (int what = 0; what < 8; what++) s.append(' ').append(p.about(what));
    s.append(" is");
    for (int what = 0; what < 4; what++) s.append(' ').append(p.is(what));
    s.append(" fault ").append(p.fault(0)).append(' ').append(p.fault(1)).append(" whose ").append(p.whose());
    for (int roll = 0; roll < p.is(2); roll++) {
      s.append(" roll");
      for (int at = 0; at < p.ofRoll(roll, 0); at++) s.append(' ').append(p.at(roll, at, 0)).append('/').append(p.at(roll, at, 1));
      s.append(" fits ").append(p.fits(roll, 0));
    }
    for (int child = 0; child < p.is(3); child++) {
      s.append(" child");
      for (int key = 1; key <= 5; key++) s.append(' ').append(p.heard(child, key));
    }
    return s.append(pages(p)).toString();
  }

  static String pages(PianolaRolls p) {
    StringBuilder s = new StringBuilder(" book");
    for (int i = 0; i < p.book(NONE, 0); i++) {
      s.append(' ');
      for (int what = 0; what < 4; what++) s.append(what > 0 ? "/" : "").append(p.book(i, what));
    }
    return s.toString();
  }

  /** What is done here must leave all as it was. */
  static void unchanged(PianolaRolls p, Runnable calls) {
    String ahead = state(p);
    calls.run();
    due("what the object holds", state(p), ahead);
  }

  /** Two worn rolls, two children, a text that rules, two steps, a phrase, something said and a tape. */
  static PianolaRolls lived() {
    PianolaRolls p = ruled(with(2, "120", "33"), "wears 2;");
    p.play(0, 1);
    p.sunday(1);
    p.phrase(3);
    p.said(1, 2, 3);
    p.feed(1, 2, 3, 4, 5);
    return p;
  }
}
