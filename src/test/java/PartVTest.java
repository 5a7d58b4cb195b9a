import java.util.function.IntPredicate;

/** Part V of the document's terms: years and images; and the constant. */
public final class PartVTest extends Sentences {
  public static void main(String[] args) {
    String all = document();
    open("V", between(all, "==== V.", "The constants:"));
    seeds();
    eachYear();
    whatIsNot();
    images();
    close();
    open("constants", between(all, "The constants:", "## Promise 1:"));
    says("`NONE = -1`: None", () -> due("NONE", PianolaRolls.NONE, -1));
    close();
    finish("part V: " + tests() + " tests");
  }

  private static void seeds() {
    says("YEARS by a SEED: X is SEED (0 .. 9999) * 2 + 269", () -> {
      for (int seed : new int[] {0, 1, 2, 4999, 9998, 9999}) {
        PianolaRolls p = new PianolaRolls();
        due("years(" + seed + ", 1)", p.years(seed, 1) >= 0, true);
        due("X of seed " + seed, p.is(1), nextX(seed * 2 + 269));
        due("again, whatever X was", p.years(seed, 1) >= 0, true);
        due("X of seed " + seed, p.is(1), nextX(seed * 2 + 269));
      }
      PianolaRolls p = new PianolaRolls();
      for (int seed : beyond(0, 9999)) due("years(" + seed + ", 1)", p.years(seed, 1), NONE);
      due("X", p.is(1), 269);
    });
    says("n times (1 .. 40)", () -> {
      int x = 269;
      for (int n = 1; n <= 40; n++) {
        // Without rolls only X tells how many years have passed.
        PianolaRolls p = new PianolaRolls();
        x = nextX(x);
        due("years(0, " + n + ")", p.years(0, n) >= 0, true);
        due("X behind " + n, p.is(1), x);
      }
      PianolaRolls p = new PianolaRolls();
      for (int n : beyond(1, 40)) due("years(0, " + n + ")", p.years(0, n), NONE);
      due("X", p.is(1), 269);
      due("steps", p.about(4), 0);
    });
    says("x is X, X anew (as in a draw)", () -> {
      // 271 mod 6 is 1: a playing, which draws by the X behind the year's own.
      PianolaRolls p = ruled(with(1, "1"), "blurs " + (nextX(271) % 10) + ";");
      p.years(1, 1);
      due("not below it", p.heard(0, 1), 1);
      due("X", p.is(1), nextX(nextX(271)));
      PianolaRolls q = ruled(with(1, "1"), "blurs " + (nextX(271) % 10 + 1) + ";");
      q.years(1, 1);
      due("below it", q.heard(0, 1), 0);
      due("X", q.is(1), nextX(nextX(271)));
    });
  }

  /** The lowest seed whose first x can't do anything by itself (3, nothing being heard) and whose second is so. */
  private static int seedBy(IntPredicate second) {
    for (int seed = 0; seed <= 9999; seed++) {
      int x = seed * 2 + 269;
      if (x % 6 == 3 && second.test(nextX(x))) return seed;
    }
    throw new IllegalStateException("no such seed");
  }

  /** The same, by a second x of that kind whose key, if it told one, would be another than the first one's. */
  private static int seedOfKind(int kind) {
    for (int seed = 0; seed <= 9999; seed++) {
      int x = seed * 2 + 269;
      if (x % 6 == 3 && nextX(x) % 6 == kind && nextX(x) % 5 != x % 5) return seed;
    }
    throw new IllegalStateException("no such seed");
  }

  private static int behind(int x, int draws) {
    int drawn = x;
    for (int i = 0; i < draws; i++) drawn = nextX(drawn);
    return drawn;
  }

  private static int secondOf(int seed) { return nextX(seed * 2 + 269); }

  /** To the last of these children. */
  private static void playedByYears(int kind, int rolls, int children) {
    PianolaRolls p = new PianolaRolls();
    for (int i = 0; i < rolls; i++) cut(p, "12");
    for (int i = 0; i < children; i++) p.child();
    int seed = seedBy(x -> x % 6 == kind && x % 5 == 4 && x / 6 % children == children - 1);
    due("years", p.years(seed, 2), 0);
    due("that roll to that child", pages(p), " book 0/" + secondOf(seed) % rolls + "/" + (children - 1) + "/2");
  }

  private static void eachYear() {
    says("x mod 6: 0, 1 ROLL x mod how many is PLAYED to CHILD x / 6 mod how many", () -> {
      for (int kind = 0; kind <= 1; kind++) {
        for (int rolls = 1; rolls <= 5; rolls++) {
          for (int children = 1; children <= 4; children++) {
            playedByYears(kind, rolls, children);
          }
        }
        // Nothing else comes with it: all places are worn by one.
        PianolaRolls p = with(1, "1234512345123451");
        int seed = seedOfKind(kind);
        due("years(" + seed + ", 2)", p.years(seed, 2), 0);
        for (int at = 0; at < 16; at++) due("wear of place " + at, p.at(0, at, 1), 1);
        due("X by the years and 16 draws", p.is(1), behind(seed * 2 + 269, 2 + 16));
      }
    });
    says("2 PLACE x / 6 mod 16 of ROLL x mod how many is PATCHED", () -> {
      for (int place = 0; place < 16; place++) {
        int wanted = place;
        PianolaRolls p = with("0000000000000000", "0000000000000000", "0000000000000000");
        for (int roll = 0; roll < 3; roll++) {
          for (int at = 0; at < 16; at++) p.worn(roll, at, 9);
        }
        int seed = seedBy(x -> x % 6 == 2 && x / 6 % 16 == wanted);
        int roll = secondOf(seed) % 3;
        due("years", p.years(seed, 2), 0);
        due("place " + place + " of roll " + roll, p.at(roll, place, 1), 0);
        for (int each = 0; each < 3; each++) {
          due("torn yet in " + each, p.ofRoll(each, 2), each == roll ? 0xffff & ~(1 << place) : 0xffff);
        }
        due("pages", p.book(NONE, 0), 0);
      }
      // The first year of it forgets a key, the patching one no other.
      PianolaRolls p = with(1, "12345");
      p.play(0, 0);
      due("years", p.years(seedOfKind(2), 2), 0);
      due("heard yet", p.of(0, 1), 4);
      due("pages", p.book(NONE, 0), 1);
    });
    says("3 KEY 1 and x mod 5 is FORGOTTEN by CHILD x / 6 mod how many", () -> {
      boolean[] keys = new boolean[6];
      for (int seed = 2; seed < 200; seed += 3) {
        int x = seed * 2 + 269;
        PianolaRolls p = with(3, "12345");
        for (int child = 0; child < 3; child++) p.play(0, child);
        due("years(" + seed + ", 1)", p.years(seed, 1), 0);
        keys[1 + x % 5] = true;
        for (int child = 0; child < 3; child++) {
          due("of child " + child, p.heard(child, 1 + x % 5) == 0, child == x / 6 % 3);
        }
      }
      for (int key = 1; key <= 5; key++) due("key " + key + " was one of these", keys[key], true);
    });
    says("(each if it can be)", () -> {
      // Place 15 of a roll of 15 places isn't there, nor is a place patched that isn't worn.
      PianolaRolls p = with("000000000000000");
      int seed = seedBy(x -> x % 6 == 2 && x / 6 % 16 == 15);
      for (int at = 0; at < 15; at++) p.worn(0, at, 1);
      due("years", p.years(seed, 2), 0);
      for (int at = 0; at < 15; at++) due("place " + at, p.at(0, at, 1), 1);
      PianolaRolls q = with(1, "1");
      due("nothing to forget", q.years(2, 1), 0);
      due("nothing heard", q.of(0, 1), 0);
      due("nothing to patch", q.years(seedBy(x -> x % 6 == 2), 2), 0);
      due("not worn", q.at(0, 0, 1), 0);
    });
    says("4, 5 a SUNDAY (if it can pass)", () -> {
      // 269 mod 6 is 5, 14530 mod 6 is 4.
      PianolaRolls p = with(1, "1");
      due("years(0, 1)", p.years(0, 1), 1);
      due("played on it", pages(p), " book 0/0/0/1");
      due("X by three draws", p.is(1), nextX(nextX(nextX(nextX(269)))));
      PianolaRolls four = new PianolaRolls();
      due("years", four.years(seedBy(x -> x % 6 == 4), 2), 1);
      PianolaRolls last = with(1, "1");
      passTo(last, 9999);
      int pages = last.book(NONE, 0);
      int heard = last.heard(0, 1);
      due("none can pass", last.years(0, 1), 9999);
      due("no draw but the year's own", last.is(1), nextX(269));
      due("nothing is played", last.heard(0, 1), heard);
      due("pages", last.book(NONE, 0), pages);
      last.undo();
      last.undo();
      due("one can pass", last.years(0, 2), 9999);
    });
  }

  private static void whatIsNot() {
    says("What there are none of isn't", () -> {
      PianolaRolls none = new PianolaRolls();
      for (int seed = 0; seed < 60; seed++) due("years(" + seed + ", 1)", none.years(seed, 1) >= 0, true);
      due("pages", none.book(NONE, 0), 0);
      PianolaRolls rolls = with("1", "2");
      wear(rolls, 0, 3, 0);
      due("no child to play to", rolls.years(1, 1), 0);
      due("no child to forget", rolls.years(2, 1), 0);
      due("X", rolls.is(1), nextX(273));
      due("pages", rolls.book(NONE, 0), 0);
      due("wear", rolls.at(0, 0, 1), 3);
      PianolaRolls children = with(2);
      due("no roll to play", children.years(1, 1), 0);
      due("no roll to patch", children.years(seedBy(x -> x % 6 == 2), 2), 0);
      due("pages", children.book(NONE, 0), 0);
      due("a Sunday passes", children.years(0, 1), 1);
      due("without a draw", children.is(1), nextX(269));
    });
    says("It is one STEP: SUNDAY", () -> {
      PianolaRolls p = with(2, "123", "45");
      p.sunday(3);
      PianolaRolls twin = with(2, "123", "45");
      twin.sunday(3);
      due("years(7, 40) answers SUNDAY", p.years(7, 40), p.is(0));
      due("SUNDAY is later", p.is(0) > 3, true);
      due("one step", p.about(4), 4);
      due("taken back", p.undo(), 3);
      due("all as ahead of it", state(p), state(twin));
      due("one in which nothing is done", p.years(2, 1), 3);
      due("is a step, too", p.about(4), 4);
      p.undo();
      due("X as ahead of it", state(p), state(twin));
    });
  }

  /** More steps than can be taken back, on either side of the image. */
  private static void backToSteps() {
    for (int ahead : new int[] {0, 3, 30, 37, 59}) {
      for (int since : new int[] {1, 29, 30, 44}) {
        PianolaRolls p = with(1, "1");
        if (ahead > 0) p.sunday(ahead);
        p.image();
        p.sunday(since);
        due("back()", p.back(), ahead);
        int many = Math.min(30, ahead);
        due("steps", p.about(4), many);
        for (int i = 1; i <= many; i++) {
          due("undo()", p.undo(), many - i);
          due("SUNDAY", p.is(0), ahead - i);
        }
        due("no further", p.undo(), NONE);
      }
    }
  }

  private static void backToSayings() {
    PianolaRolls p = with(2, "1");
    read(p, "learns who*10+key;");
    p.said(1, 2, 12);
    p.said(0, 5, 5);
    p.image();
    due("as said", p.whose(), 1);
    int[][] others = {{0, 2, 12}, {1, 3, 12}, {1, 2, 13}};
    for (int[] other : others) {
      p.said(NONE, 0, 0);
      p.said(other[0], other[1], other[2]);
      due("said otherwise", p.whose(), 0);
      p.back();
      due("as it was said", p.whose(), 1);
      due("how many", p.about(6), 2);
    }
    p.said(NONE, 0, 0);
    p.said(1, 2, 99);
    p.image();
    p.said(NONE, 0, 0);
    p.said(1, 2, 12);
    p.back();
    due("the later image", p.whose(), 0);
  }

  private static void images() {
    says("AN IMAGE: all as it is, but the tape and the latest FAULT", () -> {
      PianolaRolls p = lived();
      put(p, "child;?");
      p.image();
      due("a fault", p.text(), NONE);
      due("its place", p.fault(1), 6);
      p.feed(0x6368696c, 0x643b0000, 0, 0, 0);
      p.end(6);
      p.back();
      due("the tape isn't of it", p.about(7), 6);
      due("nor is the fault", p.fault(0), 1);
      due("nor its place", p.fault(1), 6);
      due("the tape's bytes stay", p.text(), 1);
      due("without a fault", p.fault(0), 0);
      p.back();
      due("the text has gone", p.about(2), 1);
      due("the tape is empty yet", p.about(7), 0);
      due("without a fault yet", p.fault(0), 0);
    });
    says("BACK: all is so again", () -> {
      PianolaRolls p = lived();
      p.image();
      String ahead = state(p);
      for (int again = 0; again < 2; again++) {
        p.roll(16);
        p.hole(2, 15, 5);
        p.hole(0, 0, 0);
        p.worn(2, 15, 9);
        p.worn(1, 1, 9);
        p.child();
        p.by(NONE);
        p.undo();
        p.sunday(40);
        p.years(3, 40);
        p.play(2, 2);
        p.phrase(NONE);
        p.phrase(1);
        p.said(NONE, 0, 0);
        p.said(2, 5, 99);
        p.back();
        due("all as it was", state(p), ahead);
      }
      backToSteps();
      backToSayings();
      due("the steps are, too", p.undo(), 1);
      due("SUNDAY", p.is(0), 0);
      due("the first as well", p.undo(), 0);
      due("nothing is heard", p.of(1, 1), 0);
      p.roll(16);
      for (int at = 0; at < 16; at++) due("a new roll at " + at, p.at(2, at, 0) + p.at(2, at, 1), 0);
      p.child();
      for (int key = 1; key <= 5; key++) due("a new child, key " + key, p.heard(2, key), 0);
    });
  }
}
