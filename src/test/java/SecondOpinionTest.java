import java.util.ArrayList;
import java.util.List;
import java.util.Random;

/** Drawn runs of calls on PianolaRolls and on PlainRolls: all answers must be the same. */
public final class SecondOpinionTest {
  private final Random random;
  private PianolaRolls a = new PianolaRolls();
  private PlainRolls b = new PlainRolls();
  private final List<String> log = new ArrayList<>();
  private boolean wrong;

  private SecondOpinionTest(long seed) { random = new Random(seed); }

  public static void main(String[] args) {
    int runs = Integer.getInteger("runs", 400);
    long first = Long.getLong("first", 1);
    int failures = 0;
    long calls = 0;
    for (long seed = first; seed < first + runs && failures < 3; seed++) {
      SecondOpinionTest test = new SecondOpinionTest(seed);
      test.run();
      calls += test.log.size();
      if (test.wrong) {
        failures++;
        System.out.println("seed " + seed + ":");
        int from = Math.max(0, test.log.size() - 60);
        for (String row : test.log.subList(from, test.log.size())) System.out.println("  " + row);
      }
    }
    System.out.println(failures == 0 ? calls + " calls are answered alike" : failures + " runs differ");
    if (failures != 0) System.exit(1);
  }

  private void due(String call, long got, long want) {
    log.add(call + " = " + got + (got == want ? "" : ", due is " + want));
    if (got != want) wrong = true;
  }

  private int pick(int low, int high) { return low + random.nextInt(high - low + 1); }

  /** Mostly one of low .. high, now and then one beyond. */
  private int near(int low, int high) {
    int draw = random.nextInt(25);
    if (draw == 0) return low - pick(1, 3);
    if (draw == 1) return high + pick(1, 3);
    if (draw == 2 && random.nextInt(8) == 0) return random.nextInt();
    return pick(low, high);
  }

  private int aRoll() { return near(0, Math.max(0, a.is(2) - 1)); }

  private int aChild() { return near(0, Math.max(0, a.is(3) - 1)); }

  private void run() {
    if (random.nextInt(3) == 0) closeLook();
    else longRun();
  }

  /** Rolls that are worn but hardly torn, and each of the dear questions about them. */
  private void closeLook() {
    int keys = pick(1, 5);
    for (int i = pick(1, 5); i > 0; i--) {
      int n = pick(1, random.nextInt(3) == 0 ? 16 : 8);
      due("roll(" + n + ")", a.roll(n), b.roll(n));
      for (int at = 0; at < n; at++) {
        int roll = a.is(2) - 1;
        int key = pick(random.nextInt(4) == 0 ? 0 : 1, keys);
        int wear = random.nextInt(12) == 0 ? 9 : random.nextInt(3) == 0 ? pick(0, 8) : 0;
        due("hole(" + roll + ", " + at + ", " + key + ")", bit(a.hole(roll, at, key)), bit(b.hole(roll, at, key)));
        due("worn(" + roll + ", " + at + ", " + wear + ")", bit(a.worn(roll, at, wear)), bit(b.worn(roll, at, wear)));
      }
    }
    for (int i = pick(1, 3); i > 0; i--) due("child()", a.child(), b.child());
    if (random.nextBoolean()) feedText(keys);
    for (int i = pick(0, 4); i > 0; i--) act();
    for (int i = pick(0, 4); i > 0; i--) {
      int key = pick(0, keys);
      due("phrase(" + key + ")", a.phrase(key), b.phrase(key));
    }
    for (int roll = 0; roll < a.is(2) && !wrong; roll++) {
      int child = pick(0, Math.max(0, a.is(3) - 1));
      for (int key = 1; key <= keys; key++) {
        for (int n = 0; n <= 6; n++) {
          due("likely(" + roll + ", " + child + ", " + key + ", " + n + ", false)", a.likely(roll, child, key, n, false), b.likely(roll, child, key, n, false));
          due("likely(" + roll + ", " + child + ", " + key + ", " + n + ", true)", a.likely(roll, child, key, n, true), b.likely(roll, child, key, n, true));
        }
      }
      due("fills(" + roll + ")", a.fills(roll), b.fills(roll));
      due("ofRoll(" + roll + ", 4)", a.ofRoll(roll, 4), b.ofRoll(roll, 4));
      for (int other = 0; other < a.is(2) && a.ofRoll(roll, 0) < 12; other++) {
        for (int i = -1; i <= 8; i++) due("common(" + roll + ", " + other + ", " + i + ")", a.common(roll, other, i), b.common(roll, other, i));
      }
    }
    for (int i = 0; i < 4 && !wrong; i++) {
      int child = pick(0, Math.max(0, a.is(3) - 1));
      int bits = 1 << pick(1, keys) | 1 << pick(1, keys);
      for (int roll = -1; roll <= a.is(2); roll++) due("teaches(" + child + ", " + bits + ", " + roll + ")", a.teaches(child, bits, roll), b.teaches(child, bits, roll));
      int rolls = pick(0, 31);
      for (int k = -1; k <= 5; k++) due("stair(" + rolls + ", " + k + ")", a.stair(rolls, k), b.stair(rolls, k));
    }
  }

  private void longRun() {
    int style = random.nextInt(4);
    int keys = pick(1, 5);
    for (int i = 0; i < 4 && !wrong; i++) start(keys, style);
    int calls = pick(50, 350);
    for (int i = 0; i < calls && !wrong; i++) {
      int kind = random.nextInt(100);
      if (kind < 4) start(keys, style);
      else if (kind < 8) tell(keys);
      else if (kind < 13) feedText(keys);
      else if (kind < 40) act();
      else ask(keys);
    }
  }

  private void start(int keys, int style) {
    if (random.nextInt(3) != 0) {
      int n = style == 0 ? near(1, 16) : style == 1 ? near(1, 5) : near(3, 9);
      due("roll(" + n + ")", a.roll(n), b.roll(n));
      int roll = a.is(2) - 1;
      for (int at = 0; at < n && at < 16 && roll >= 0; at++) {
        int key = random.nextInt(5) == 0 ? 0 : pick(0, keys);
        due("hole(" + roll + ", " + at + ", " + key + ")", bit(a.hole(roll, at, key)), bit(b.hole(roll, at, key)));
      }
    } else {
      due("child()", a.child(), b.child());
    }
  }

  private static long bit(boolean answer) { return answer ? 1 : 0; }

  private void tell(int keys) {
    int roll = aRoll();
    int at = near(0, random.nextBoolean() ? 4 : 15);
    if (random.nextInt(3) == 0) {
      int key = near(0, keys);
      due("hole(" + roll + ", " + at + ", " + key + ")", bit(a.hole(roll, at, key)), bit(b.hole(roll, at, key)));
    } else {
      int wear = random.nextInt(3) == 0 ? 9 : near(0, 9);
      due("worn(" + roll + ", " + at + ", " + wear + ")", bit(a.worn(roll, at, wear)), bit(b.worn(roll, at, wear)));
    }
  }

  private void feedText(int keys) {
    String text = new TextMaker(random, keys).make();
    if (text.length() > 300) text = text.substring(0, 300);
    if (random.nextInt(20) != 0) due("end(0)", a.end(0), b.end(0));
    int had = a.about(7);
    for (int from = 0; from < text.length(); from += 20) {
      int[] five = new int[5];
      for (int i = 0; i < 20; i++) {
        int sign = from + i < text.length() ? text.charAt(from + i) : 0;
        five[i / 4] = five[i / 4] << 8 | sign & 255;
      }
      due("feed", a.feed(five[0], five[1], five[2], five[3], five[4]), b.feed(five[0], five[1], five[2], five[3], five[4]));
    }
    int n = had + text.length() + (random.nextInt(30) == 0 ? pick(-2, 30) : 0);
    due("end(" + n + ")", a.end(n), b.end(n));
    due("text() of " + text, a.text(), b.text());
    for (int what = -1; what <= 2; what++) due("fault(" + what + ")", a.fault(what), b.fault(what));
    due("about(7)", a.about(7), b.about(7));
    int number = near(-1, Math.max(0, a.about(2) - 1));
    due("by(" + number + ")", bit(a.by(number)), bit(b.by(number)));
  }

  private void act() {
    int roll = aRoll();
    int child = aChild();
    int key = near(1, 5);
    int at = near(0, 15);
    switch (random.nextInt(12)) {
      case 0, 1 -> due("play(" + roll + ", " + child + ")", a.play(roll, child), b.play(roll, child));
      case 2 -> due("patch(" + roll + ", " + at + ")", bit(a.patch(roll, at)), bit(b.patch(roll, at)));
      case 3 -> due("forget(" + child + ", " + key + ")", bit(a.forget(child, key)), bit(b.forget(child, key)));
      case 4 -> {
        int n = random.nextInt(3) == 0 ? near(1, 60) : pick(1, 4);
        due("sunday(" + n + ")", a.sunday(n), b.sunday(n));
      }
      case 5, 6 -> {
        int text = near(0, Math.max(0, a.about(2) - 1));
        due("played(" + text + ")", a.played(text), b.played(text));
      }
      case 7 -> {
        int seed = near(0, 9999);
        int n = near(1, 40);
        due("years(" + seed + ", " + n + ")", a.years(seed, n), b.years(seed, n));
      }
      case 8, 9 -> {
        for (int i = random.nextInt(6) == 0 ? 31 : pick(1, 3); i > 0; i--) due("undo()", a.undo(), b.undo());
      }
      case 10 -> {
        int text = near(-1, Math.max(0, a.about(2) - 1));
        due("by(" + text + ")", bit(a.by(text)), bit(b.by(text)));
      }
      default -> {
        if (random.nextInt(4) == 0) due("back()", a.back(), b.back());
        else due("image()", a.image(), b.image());
      }
    }
    state();
  }

  /** All that can be seen of rolls and children. */
  private void state() {
    for (int what = 0; what <= 3; what++) due("is(" + what + ")", a.is(what), b.is(what));
    for (int what = 0; what <= 6; what++) due("about(" + what + ")", a.about(what), b.about(what));
    for (int roll = 0; roll < 5; roll++) {
      for (int at = 0; at < 16; at++) {
        for (int what = 0; what < 3; what++) {
          if (a.at(roll, at, what) != b.at(roll, at, what)) {
            due("at(" + roll + ", " + at + ", " + what + ")", a.at(roll, at, what), b.at(roll, at, what));
          }
        }
      }
    }
    for (int child = 0; child < 4; child++) {
      for (int key = 1; key <= 5; key++) {
        if (a.heard(child, key) != b.heard(child, key)) {
          due("heard(" + child + ", " + key + ")", a.heard(child, key), b.heard(child, key));
        }
      }
    }
    for (int page = -1; page < 31; page++) {
      for (int what = 0; what < 4; what++) {
        if (a.book(page, what) != b.book(page, what)) {
          due("book(" + page + ", " + what + ")", a.book(page, what), b.book(page, what));
        }
      }
    }
  }

  private void ask(int keys) {
    int r = aRoll();
    int q = aRoll();
    int c = aChild();
    int k = near(1, 5);
    int what = near(0, 4);
    int at = near(0, random.nextBoolean() ? 4 : 15);
    int i = near(-1, 4);
    boolean flag = random.nextBoolean();
    switch (random.nextInt(33)) {
      case 0 -> due("of(" + c + ", " + what + ")", a.of(c, what), b.of(c, what));
      case 1 -> due("heard(" + c + ", " + k + ")", a.heard(c, k), b.heard(c, k));
      case 2, 3 -> due("ofRoll(" + r + ", " + what + ")", a.ofRoll(r, what), b.ofRoll(r, what));
      case 4 -> due("at(" + r + ", " + at + ", " + what + ")", a.at(r, at, what), b.at(r, at, what));
      case 5, 6 -> due("law(" + r + ", " + at + ", " + c + ", " + flag + ")", a.law(r, at, c, flag), b.law(r, at, c, flag));
      case 7 -> due("is(" + what + ")", a.is(what), b.is(what));
      case 8 -> {
        int page = near(-1, 30);
        due("book(" + page + ", " + what + ")", a.book(page, what), b.book(page, what));
      }
      case 9 -> {
        int n = near(1, 60);
        due("foretold(" + n + ", " + c + ", " + k + ")", a.foretold(n, c, k), b.foretold(n, c, k));
      }
      case 10 -> due("edit(" + r + ", " + q + ")", a.edit(r, q), b.edit(r, q));
      case 11 -> {
        if (random.nextInt(8) == 0 || a.ofRoll(r, 0) < 11) due("common(" + r + ", " + q + ", " + i + ")", a.common(r, q, i), b.common(r, q, i));
      }
      case 12, 13 -> {
        int key = random.nextInt(6) == 0 ? -1 : near(0, keys);
        due("phrase(" + key + ")", a.phrase(key), b.phrase(key));
      }
      case 14 -> {
        int unlike = near(0, 8);
        due("fits(" + r + ", " + unlike + ")", a.fits(r, unlike), b.fits(r, unlike));
      }
      case 15 -> due("nearest(" + r + ")", a.nearest(r), b.nearest(r));
      case 16 -> due("motif(" + r + ", " + flag + ")", a.motif(r, flag), b.motif(r, flag));
      case 17 -> due("mirror(" + r + ", " + flag + ")", a.mirror(r, flag), b.mirror(r, flag));
      case 18 -> {
        int off = near(0, 16);
        due("clash(" + r + ", " + q + ", " + off + ")", a.clash(r, q, off), b.clash(r, q, off));
      }
      case 19 -> due("together(" + r + ", " + q + ")", a.together(r, q), b.together(r, q));
      case 20 -> {
        int rolls = near(0, (1 << Math.max(0, a.is(2))) - 1);
        due("stair(" + rolls + ", " + i + ")", a.stair(rolls, i), b.stair(rolls, i));
      }
      case 21, 22 -> due("fills(" + r + ")", a.fills(r), b.fills(r));
      case 23 -> {
        if (random.nextInt(3) == 0) {
          int bits = near(0, 31) * 2 + (random.nextInt(20) == 0 ? 1 : 0);
          if (random.nextBoolean()) bits &= 1 << pick(0, 5) | 1 << pick(0, 5);
          due("teaches(" + c + ", " + bits + ", " + i + ")", a.teaches(c, bits, i), b.teaches(c, bits, i));
        }
      }
      case 24, 25 -> {
        int n = near(0, random.nextBoolean() ? 3 : 16);
        due("likely(" + r + ", " + c + ", " + k + ", " + n + ", " + flag + ")", a.likely(r, c, k, n, flag), b.likely(r, c, k, n, flag));
      }
      case 26 -> due("parts(" + r + ")", a.parts(r), b.parts(r));
      case 27 -> due("alike()", a.alike(), b.alike());
      case 28 -> {
        int child = random.nextInt(6) == 0 ? -1 : c;
        int learns = random.nextBoolean() ? a.law(0, 0, Math.max(0, c), false) : near(0, 99);
        due("said(" + child + ", " + k + ", " + learns + ")", a.said(child, k, learns), b.said(child, k, learns));
      }
      case 29 -> due("whose()", a.whose(), b.whose());
      case 30 -> {
        due("best()", a.best(), b.best());
        due("loved()", a.loved(), b.loved());
      }
      case 31 -> due("dumb()", a.dumb(), b.dumb());
      default -> {
        int roll = near(-1, 4);
        due("ledger(" + roll + ")", a.ledger(roll), b.ledger(roll));
        int number = near(0, 7);
        due("about(" + number + ")", a.about(number), b.about(number));
      }
    }
  }
}
