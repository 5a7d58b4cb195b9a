/** What the tests by hand share: small worlds, texts for the tape, and a count of what isn't as due. */
abstract class Bench {
  static final int NONE = -1;
  private static int wrong = 0;
  private static int checks = 0;
  private static String where = "";

  /** What is told ahead of each answer that isn't as due, from here on. */
  static void heading(String text) { where = text; }

  static int checks() { return checks; }

  static void due(String what, long got, long want) {
    checks++;
    if (got != want) {
      wrong++;
      System.out.println(where + ": " + what + " answered " + got + ", due is " + want);
    }
  }

  static void due(String what, boolean got, boolean want) { due(what, got ? 1 : 0, want ? 1 : 0); }

  static void due(String what, String got, String want) {
    checks++;
    if (!got.equals(want)) {
      wrong++;
      System.out.println(where + ": " + what + " is\n  " + got + "\ndue is\n  " + want);
    }
  }

  static void finish(String what) {
    System.out.println(what + ", " + checks + " checks, " + wrong + " wrong");
    if (wrong != 0) System.exit(1);
  }

  /** A new object with rolls of these keys, one a digit. */
  static PianolaRolls with(String... rolls) {
    PianolaRolls p = new PianolaRolls();
    for (String keys : rolls) cut(p, keys);
    return p;
  }

  /** The same, and so many children. */
  static PianolaRolls with(int children, String... rolls) {
    PianolaRolls p = with(rolls);
    for (int i = 0; i < children; i++) p.child();
    return p;
  }

  static int cut(PianolaRolls p, String keys) {
    int roll = p.roll(keys.length());
    for (int at = 0; at < keys.length(); at++) p.hole(roll, at, keys.charAt(at) - '0');
    return roll;
  }

  static void wear(PianolaRolls p, int roll, int wear, int... places) {
    for (int at : places) p.worn(roll, at, wear);
  }

  /** Puts the text on the tape, which is emptied ahead. */
  static void put(PianolaRolls p, String text) {
    p.end(0);
    for (int from = 0; from < text.length(); from += 20) {
      int[] five = new int[5];
      for (int i = 0; i < 20; i++) {
        int sign = from + i < text.length() ? text.charAt(from + i) : 0;
        five[i / 4] = five[i / 4] << 8 | sign & 255;
      }
      p.feed(five[0], five[1], five[2], five[3], five[4]);
    }
    p.end(text.length());
  }

  static int read(PianolaRolls p, String text) {
    put(p, text);
    return p.text();
  }

  static PianolaRolls ruled(PianolaRolls p, String text) {
    int number = p.about(2);
    due("'" + text + "' is read", read(p, text), number);
    due("'" + text + "' rules", p.by(number), true);
    return p;
  }

  static void faulty(String text, int what, int at) {
    PianolaRolls p = new PianolaRolls();
    due("text of '" + text + "'", read(p, text), NONE);
    due("fault(0) of '" + text + "'", p.fault(0), what);
    due("fault(1) of '" + text + "'", p.fault(1), at);
  }

  static void fine(String text) {
    PianolaRolls p = new PianolaRolls();
    due("text of '" + text + "'", read(p, text), 0);
    due("fault(0) of '" + text + "'", p.fault(0), 0);
    due("fault(1) of '" + text + "'", p.fault(1), NONE);
  }

  /** The value of a sum between 0 and 99, as learns says it; of a child 1 that heard key 2 once, on Sunday 0. */
  static void worth(String sum, int want) {
    PianolaRolls p = with(2, "2", "11101");
    p.play(0, 1);
    ruled(p, "learns " + sum + ";");
    due(sum, p.law(0, 0, 1, false), want);
  }

  static void passTo(PianolaRolls p, int sunday) {
    for (int i = 0; i < 200 && p.is(0) < sunday; i++) p.sunday(Math.min(60, sunday - p.is(0)));
  }

  static String times(int many, String text) { return text.repeat(many); }

  static int nextX(int x) { return (x * 509 + 397) % 30697; }
}
