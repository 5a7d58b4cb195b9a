/** Part I of the document's terms: rolls, children, playing, Sundays and steps, sentence by sentence. */
public final class PartITest extends Sentences {
  public static void main(String[] args) {
    open("I", between(document(), "## Terms", "==== II."));
    rolls();
    children();
    dayAndBook();
    playing();
    byHand();
    sundays();
    steps();
    close();
    finish("part I: " + tests() + " tests");
  }

  private static void rolls() {
    says("ROLLS 0 .. 4 (told one by one)", () -> {
      PianolaRolls p = new PianolaRolls();
      for (int i = 0; i < 5; i++) {
        due("places of roll " + i + " ahead", p.ofRoll(i, 0), NONE);
        due("roll(" + (i + 1) + ")", p.roll(i + 1), i);
        due("places of roll " + i, p.ofRoll(i, 0), i + 1);
      }
      due("a sixth", p.roll(1), NONE);
      due("roll 5", p.ofRoll(5, 0), NONE);
    });
    says("1 .. 16 PLACES", () -> {
      for (int n = 1; n <= 16; n++) {
        PianolaRolls p = new PianolaRolls();
        due("roll(" + n + ")", p.roll(n), 0);
        due("its places", p.ofRoll(0, 0), n);
        due("the last place", p.hole(0, n - 1, 1), true);
        due("the place behind it", p.hole(0, n, 1), false);
      }
      PianolaRolls none = new PianolaRolls();
      for (int n : beyond(1, 16)) due("roll(" + n + ")", none.roll(n), NONE);
      due("rolls", none.is(2), 0);
    });
    says("each with a KEY 1 .. 5 (a hole) or silent (0; at first)", () -> {
      PianolaRolls p = new PianolaRolls();
      p.roll(16);
      for (int at = 0; at < 16; at++) due("place " + at + " at first", p.at(0, at, 0), 0);
      for (int key = 1; key <= 5; key++) {
        due("key " + key, p.hole(0, 15, key), true);
        due("it is there", p.at(0, 15, 0), key);
        due("it is a hole", p.ofRoll(0, 1), 1);
      }
      due("key 0", p.hole(0, 15, 0), true);
      due("it is no hole", p.ofRoll(0, 1), 0);
    });
    says("WEAR 0 .. 9 (at first 0; told)", () -> {
      PianolaRolls p = new PianolaRolls();
      p.roll(16);
      for (int at = 0; at < 16; at++) due("place " + at + " at first", p.at(0, at, 1), 0);
      for (int wear = 0; wear <= 9; wear++) {
        due("wear " + wear, p.worn(0, 15, wear), true);
        due("it is so worn", p.at(0, 15, 1), wear);
      }
      for (int wear : beyond(0, 9)) due("wear " + wear, p.worn(0, 15, wear), false);
      due("it is worn as told", p.at(0, 15, 1), 9);
    });
    says("one of WEAR 9 is TORN", () -> {
      PianolaRolls p = with("1000000000000000");
      for (int wear = 0; wear <= 8; wear++) {
        wear(p, 0, wear, 0, 15);
        due("torn by wear " + wear, p.ofRoll(0, 2), 0);
      }
      wear(p, 0, 9, 0, 15);
      due("torn by wear 9", p.ofRoll(0, 2), 0x8001);
    });
  }

  private static void children() {
    says("CHILDREN 0 .. 3 (told one by one)", () -> {
      PianolaRolls p = new PianolaRolls();
      for (int i = 0; i < 4; i++) {
        due("child " + i + " ahead", p.heard(i, 1), NONE);
        due("child()", p.child(), i);
        due("child " + i, p.heard(i, 1), 0);
      }
      due("a fifth", p.child(), NONE);
      due("child 4", p.heard(4, 1), NONE);
    });
    says("how often each heard each KEY, 0 .. 99 (at first 0)", () -> {
      PianolaRolls p = with(4, "12345");
      for (int child = 0; child < 4; child++) {
        for (int key = 1; key <= 5; key++) due("child " + child + ", key " + key, p.heard(child, key), 0);
      }
      ruled(p, "wears 0;");
      for (int i = 1; i <= 101; i++) {
        p.play(0, 2);
        due("behind " + i + " playings", p.heard(2, 5), Math.min(99, i));
      }
      due("another child", p.heard(1, 5), 0);
    });
    says("a KEY is LEARNT by one that heard it at least as often as learns says", () -> {
      PianolaRolls p = ruled(with(1, "4"), "wears 0;");
      for (int i = 0; i <= 4; i++) {
        due("heard " + i + " of 3", p.of(0, 0), i < 3 ? 0 : 16);
        p.play(0, 0);
      }
      ruled(p, "wears 0;learns 5;");
      due("heard 5 of 5", p.of(0, 0), 16);
      ruled(p, "wears 0;learns 6;");
      due("heard 5 of 6", p.of(0, 0), 0);
      PianolaRolls most = ruled(with(1, "1111111111111111", "111"), "wears 0;learns 99;");
      for (int i = 0; i < 6; i++) most.play(0, 0);
      most.play(1, 0);
      due("heard 99 of 99", most.of(0, 0), 2);
      most.forget(0, 1);
      for (int i = 0; i < 6; i++) most.play(0, 0);
      due("heard 96 of 99", most.of(0, 0), 0);
    });
    says(", and once at least", () -> {
      PianolaRolls p = ruled(with(1, "4"), "learns 0;");
      due("never heard", p.of(0, 0), 0);
      p.play(0, 0);
      due("heard once", p.of(0, 0), 16);
      p.forget(0, 4);
      due("forgotten", p.of(0, 0), 0);
    });
  }

  private static void dayAndBook() {
    says("SUNDAY 0 .. 9999 (at first 0)", () -> {
      PianolaRolls p = new PianolaRolls();
      due("at first", p.is(0), 0);
      passTo(p, 9999);
      due("the last one", p.is(0), 9999);
      for (int n = 1; n <= 60; n++) due("sunday(" + n + ")", p.sunday(n), NONE);
      due("still the last one", p.is(0), 9999);
    });
    says("X: at first 269", () -> due("X", new PianolaRolls().is(1), 269));
    says("BOOK (the latest 30)", () -> {
      PianolaRolls p = with(1, "0", "1");
      p.play(1, 0);
      for (int i = 1; i < 30; i++) {
        due("pages", p.book(NONE, 0), i);
        p.play(0, 0);
      }
      due("30 pages", p.book(NONE, 0), 30);
      due("the eldest", p.book(0, 1), 1);
      p.play(1, 0);
      due("30 pages yet", p.book(NONE, 0), 30);
      due("the eldest has gone", p.book(0, 1), 0);
      due("the latest is the last", p.book(29, 1), 1);
      for (int i = 0; i < 29; i++) p.play(0, 0);
      due("that one is the eldest", p.book(0, 1), 1);
      p.play(0, 0);
      due("and gone", p.ledger(1), 0);
    });
    says("SUNDAY, ROLL, CHILD, how many were heard", () -> {
      PianolaRolls p = ruled(with(4, "0", "0", "0", "0", "1111111111111111"), "wears 0;");
      p.play(0, 0);
      due("all the least", pages(p), " book 0/0/0/0");
      passTo(p, 9999);
      p.play(4, 3);
      int[] most = {9999, 4, 3, 16};
      for (int what = 0; what < 4; what++) due("book(29, " + what + ")", p.book(29, what), most[what]);
    });
  }

  private static void playing() {
    says("PLAYED: a ROLL to a CHILD, PLACE by PLACE", () -> {
      // The draws from X 269 on: 9, 0, 7, 7, 0, 7, 4, 6.
      PianolaRolls p = ruled(with(3, "5", "123", "4"), "blurs 1;");
      due("the second is blurred", p.play(1, 2), 2);
      int[] heard = {1, 0, 1, 0, 0};
      for (int key = 1; key <= 5; key++) due("key " + key, p.heard(2, key), heard[key - 1]);
      due("other children", p.of(0, 1) + p.of(1, 1), 0);
      due("other rolls", p.at(0, 0, 1) + p.at(2, 0, 1), 0);
      PianolaRolls other = ruled(with(1, "321"), "blurs 1;");
      other.play(0, 0);
      due("the first of the other", other.heard(0, 3), 1);
      due("the second of the other", other.heard(0, 2), 0);
    });
    says("is there a hole, not TORN", () -> {
      PianolaRolls p = with(1, "0102");
      wear(p, 0, 9, 1);
      wear(p, 0, 8, 2, 3);
      due("a hole of wear 8 alone", p.play(0, 0), 1);
      due("one draw", p.is(1), nextX(269));
      due("a silent place isn't worn", p.at(0, 0, 1), 0);
      due("nor is one that was told to be", p.at(0, 2, 1), 8);
      due("a torn place stays torn", p.at(0, 1, 1), 9);
      due("key 1", p.heard(0, 1), 0);
      due("key 2", p.heard(0, 2), 1);
      due("all are torn or silent", p.play(0, 0), 0);
      due("no draw", p.is(1), nextX(269));
    });
    says("a draw by 10 (X mod 10, X being (X * 509 + 397) mod 30697 then)", () -> {
      PianolaRolls p = ruled(with(1, "1"), "wears 0;blurs 5;");
      int x = 269;
      for (int i = 0; i < 200; i++) {
        due("playing " + i + " by X " + x, p.play(0, 0), x % 10 >= 5 ? 1 : 0);
        x = nextX(x);
        due("X behind it", p.is(1), x);
      }
    });
    says("below blurs it isn't heard", () -> {
      // By the draws 9, 0, 7, 7: heard are those that are not below.
      int[] heard = {4, 3, 3, 3, 3, 3, 3, 3, 1, 1, 0};
      for (int blurs = 0; blurs <= 10; blurs++) {
        PianolaRolls p = ruled(with(1, "1234"), "blurs " + blurs + ";");
        due("by blurs " + blurs, p.play(0, 0), heard[blurs]);
        due("the first, by 9", p.heard(0, 1), blurs <= 9 ? 1 : 0);
        due("the second, by 0", p.heard(0, 2), blurs <= 0 ? 1 : 0);
        due("the third, by 7", p.heard(0, 3), blurs <= 7 ? 1 : 0);
        due("worn all the same", p.at(0, 1, 1), 1);
      }
    });
    says("else the CHILD heard that KEY once more (99 at most)", () -> {
      PianolaRolls p = ruled(with(1, "1111111111111111", "1", "2"), "wears 0;");
      for (int i = 1; i <= 6; i++) {
        p.play(0, 0);
        due("heard", p.heard(0, 1), 16 * i);
      }
      for (int i = 97; i <= 101; i++) {
        due("a hole is heard", p.play(1, 0), 1);
        due("how often", p.heard(0, 1), Math.min(99, i));
      }
      due("16 holes are heard", p.play(0, 0), 16);
      due("99 yet", p.heard(0, 1), 99);
      p.play(2, 0);
      due("another key", p.heard(0, 2), 1);
    });
    says("then WEAR is more by wears (9 at most)", () -> {
      for (int wears = 0; wears <= 9; wears++) {
        for (int wear = 0; wear <= 8; wear++) {
          PianolaRolls p = ruled(with(1, "1"), "wears " + wears + ";");
          p.worn(0, 0, wear);
          p.play(0, 0);
          due("wear " + wear + " and wears " + wears, p.at(0, 0, 1), Math.min(9, wear + wears));
        }
      }
      PianolaRolls far = with(1, "1", "1", "1", "1", "1111111111111111");
      wear(far, 0, 3, 0);
      wear(far, 4, 6, 15);
      far.play(4, 0);
      due("the last place of the last roll", far.at(4, 15, 1), 7);
      due("the first of the first", far.at(0, 0, 1), 3);
      PianolaRolls then = ruled(with(1, "1"), "blurs wear*10;");
      due("heard as it is ahead", then.play(0, 0), 1);
      due("worn by then", then.play(0, 0), 0);
    });
    says("Written down", () -> {
      PianolaRolls p = with(2, "0", "11");
      p.play(0, 1);
      p.play(1, 0);
      due("one that was silent, too", pages(p), " book 0/0/1/0 0/1/0/2");
    });
  }

  private static void byHand() {
    says("PATCHED: a PLACE of WEAR above 0: it is 0", () -> {
      PianolaRolls p = with("10");
      due("wear 0", p.patch(0, 0), false);
      for (int wear = 1; wear <= 9; wear++) {
        wear(p, 0, wear, 0, 1);
        due("wear " + wear, p.patch(0, 0), true);
        due("it is 0", p.at(0, 0, 1), 0);
        due("the other one", p.at(0, 1, 1), wear);
        due("a silent one", p.patch(0, 1), true);
        due("again", p.patch(0, 0), false);
      }
      due("no longer torn", p.ofRoll(0, 2), 0);
    });
    says("FORGOTTEN: a KEY the CHILD heard: it never did", () -> {
      PianolaRolls p = ruled(with(2, "1111111111111111", "12"), "wears 0;");
      due("never heard", p.forget(0, 1), false);
      p.play(1, 0);
      p.play(1, 1);
      due("heard once", p.forget(0, 1), true);
      due("never", p.heard(0, 1), 0);
      due("another key", p.heard(0, 2), 1);
      due("another child", p.heard(1, 1), 1);
      due("again", p.forget(0, 1), false);
      for (int i = 0; i < 7; i++) p.play(0, 0);
      due("heard 99 times", p.forget(0, 1), true);
      due("never", p.heard(0, 1), 0);
    });
  }

  private static void sundays() {
    says("A SUNDAY: are there ROLLS and CHILDREN", () -> {
      PianolaRolls[] some = {new PianolaRolls(), with("1", "2"), with(2)};
      for (PianolaRolls p : some) {
        due("nothing is heard", p.sunday(1), 0);
        due("X", p.is(1), 269);
        due("pages", p.book(NONE, 0), 0);
        due("SUNDAY", p.is(0), 1);
      }
    });
    says("a draw by how many ROLLS, one by how many CHILDREN: that ROLL is PLAYED to that CHILD", () -> {
      for (int rolls = 1; rolls <= 5; rolls++) {
        for (int children = 1; children <= 4; children++) {
          PianolaRolls p = new PianolaRolls();
          for (int i = 0; i < rolls; i++) p.roll(1);
          for (int i = 0; i < children; i++) p.child();
          int x = 269;
          for (int i = 0; i < 12; i++) {
            p.sunday(1);
            due("ROLL", p.book(i, 1), x % rolls);
            x = nextX(x);
            due("CHILD", p.book(i, 2), x % children);
            x = nextX(x);
            due("X", p.is(1), x);
          }
        }
      }
      PianolaRolls p = with(1, "12");
      due("both are heard", p.sunday(1), 2);
      due("four draws", p.is(1), nextX(nextX(nextX(nextX(269)))));
      due("SUNDAY as ahead", p.book(0, 0), 0);
    });
    says("SUNDAY is one more (at 9999 none can pass)", () -> {
      PianolaRolls p = ruled(with(1, "1"), "wears 0;");
      p.sunday(1);
      due("one more", p.is(0), 1);
      passTo(p, 9998);
      due("at 9998 one can", p.sunday(1), 1);
      due("SUNDAY", p.is(0), 9999);
      int x = p.is(1);
      due("by hand", p.sunday(1), NONE);
      due("X", p.is(1), x);
      read(p, "sunday 1;");
      due("by a text", p.played(1), 0);
      due("X", p.is(1), x);
      // 269 mod 6 is 5.
      due("by years", p.years(0, 1), 9999);
      due("X", p.is(1), nextX(269));
      p.forget(0, 1);
      due("foretold", p.foretold(1, 0, 1), 0);
    });
  }

  private static void steps() {
    says("STEPS: PLAYED, PATCHED, FORGOTTEN, a SUNDAY (each), YEARS (see V)", () -> {
      PianolaRolls p = with(1, "12");
      p.worn(0, 1, 3);
      p.hole(0, 0, 2);
      read(p, "child;");
      p.by(0);
      p.phrase(1);
      p.said(0, 1, 1);
      p.image();
      due("what is told is none", p.about(4), 0);
      p.play(0, 0);
      due("PLAYED", p.about(4), 1);
      p.patch(0, 0);
      due("PATCHED", p.about(4), 2);
      p.forget(0, 2);
      due("FORGOTTEN", p.about(4), 3);
      p.sunday(1);
      due("a SUNDAY", p.about(4), 4);
      p.sunday(3);
      due("each", p.about(4), 7);
      p.years(0, 40);
      due("YEARS", p.about(4), 8);
      p.played(0);
      due("a child by a text is none", p.about(4), 8);
      p.play(1, 0);
      p.patch(0, 2);
      p.forget(0, 6);
      p.sunday(61);
      p.years(0, 41);
      p.played(1);
      due("what is refused is none", p.about(4), 8);
    });
    says("the latest 30 can be taken back, the latest first", () -> {
      PianolaRolls p = new PianolaRolls();
      for (int i = 1; i <= 33; i++) {
        p.sunday(1);
        due("steps", p.about(4), Math.min(30, i));
      }
      for (int i = 29; i >= 0; i--) {
        due("undo()", p.undo(), i);
        due("SUNDAY", p.is(0), 3 + i);
      }
      due("no further", p.undo(), NONE);
      due("SUNDAY", p.is(0), 3);
      p.sunday(60);
      due("of 60", p.about(4), 30);
      for (int i = 29; i >= 0; i--) due("undo()", p.undo(), i);
      due("SUNDAY", p.is(0), 33);
      due("no further", p.undo(), NONE);
    });
    says("(WEAR, what was heard, SUNDAY, X, BOOK are as ahead of it", PartITest::asAhead);
    says("WEAR told since is as told", PartITest::wearToldSince);
    says("holes stay", () -> {
      PianolaRolls p = with(1, "120");
      p.play(0, 0);
      p.hole(0, 0, 5);
      p.hole(0, 1, 0);
      p.hole(0, 2, 3);
      cut(p, "44");
      p.child();
      p.undo();
      int[] keys = {5, 0, 3};
      for (int at = 0; at < 3; at++) due("key " + at, p.at(0, at, 0), keys[at]);
      due("a roll told since", p.at(1, 1, 0), 4);
      due("a child told since", p.is(3), 2);
    });
  }

  /** With the book full, what was heard at its most and a place that tears. */
  private static void asAhead() {
    PianolaRolls p = ruled(with(2, "1111111111111111", "12"), "wears roll*4;");
    p.sunday(23);
    for (int i = 0; i < 30; i++) p.play(0, 0);
    wear(p, 1, 7, 0, 1);
    due("99 at most", p.heard(0, 1), 99);
    due("the book is full", p.book(NONE, 0), 30);
    String[] kinds = {"play", "patch", "forget", "sunday", "years"};
    for (int kind = 0; kind < 5; kind++) {
      String ahead = bare(p);
      switch (kind) {
        case 0: p.play(1, 0); break;
        case 1: p.patch(1, 0); break;
        case 2: p.forget(0, 1); break;
        case 3: p.sunday(1); break;
        default: p.years(0, 40);
      }
      due(kinds[kind] + " changes something", bare(p).equals(ahead), false);
      due("undo()", p.undo(), 29);
      due("all as ahead of " + kinds[kind], bare(p), ahead);
      p.sunday(1);
    }
  }

  private static String bare(PianolaRolls p) {
    StringBuilder s = new StringBuilder("SUNDAY " + p.is(0) + " X " + p.is(1));
    for (int roll = 0; roll < p.is(2); roll++) {
      for (int at = 0; at < p.ofRoll(roll, 0); at++) s.append(' ').append(p.at(roll, at, 1));
    }
    for (int key = 1; key <= 5; key++) s.append(" heard ").append(p.heard(0, key)).append(' ').append(p.heard(1, key));
    return s.append(pages(p)).toString();
  }

  private static void wearToldSince() {
    PianolaRolls p = with(1, "11");
    wear(p, 0, 3, 0, 1);
    p.play(0, 0);
    p.worn(0, 0, 7);
    due("undo()", p.undo(), 0);
    due("told since", p.at(0, 0, 1), 7);
    due("told ahead", p.at(0, 1, 1), 3);
    p.play(0, 0);
    p.worn(0, 1, 0);
    p.play(0, 0);
    due("worn since it was told", p.at(0, 1, 1), 1);
    p.undo();
    due("told since the first, ahead of the second", p.at(0, 1, 1), 0);
    due("not told", p.at(0, 0, 1), 8);
    p.undo();
    due("as told", p.at(0, 1, 1), 0);
    due("not told", p.at(0, 0, 1), 7);
    p.play(0, 0);
    p.worn(0, 0, 2);
    p.worn(0, 0, 9);
    p.patch(0, 0);
    p.undo();
    due("as told last", p.at(0, 0, 1), 9);
    p.undo();
    due("as told last", p.at(0, 0, 1), 9);
    PianolaRolls far = with(1, "1", "1", "1", "1", "0000000000000001");
    far.play(4, 0);
    far.worn(4, 15, 6);
    due("undo()", far.undo(), 0);
    due("the last place of the last roll", far.at(4, 15, 1), 6);
    due("the first of the first", far.at(0, 0, 1), 0);
    PianolaRolls many = with(1, "01");
    many.sunday(50);
    many.worn(0, 0, 4);
    many.sunday(5);
    many.worn(0, 1, 6);
    for (int i = 29; i >= 0; i--) {
      due("undo()", many.undo(), i);
      due("told ahead of five", many.at(0, 0, 1), 4);
      due("told behind all", many.at(0, 1, 1), 6);
    }
  }
}
