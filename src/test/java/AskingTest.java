/** Promises 18 to 49, by which something is asked, and the image: sentence by sentence. */
public final class AskingTest extends Sentences {
  private static final String SIXTEEN_ONES = "1111111111111111";

  public static void main(String[] args) {
    Runnable[] promises = {
      AskingTest::of, AskingTest::heard, AskingTest::ofRoll, AskingTest::placeOf, AskingTest::law, AskingTest::is,
      AskingTest::book, AskingTest::foretold, AskingTest::edit, AskingTest::common, AskingTest::phrase, AskingTest::fits,
      AskingTest::nearest, AskingTest::motif, AskingTest::mirror, AskingTest::clash, AskingTest::together,
      AskingTest::stair, AskingTest::fills, AskingTest::teaches, AskingTest::likely, AskingTest::parts, AskingTest::alike,
      AskingTest::said, AskingTest::whose, AskingTest::best, AskingTest::loved, AskingTest::dumb, AskingTest::ledger,
      AskingTest::image, AskingTest::back, AskingTest::about};
    for (int i = 0; i < promises.length; i++) {
      promise(i + 18);
      promises[i].run();
      close();
    }
    finish("promises 18 to 49: " + tests() + " tests");
  }

  private static void of() {
    says("Of a CHILD: 0 KEYS it has LEARNT (bits)", () -> {
      PianolaRolls p = ruled(with(4, "12345", "15"), "learns 2;");
      due("none", p.of(3, 0), 0);
      p.play(0, 3);
      due("too seldom", p.of(3, 0), 0);
      p.play(1, 3);
      due("1 and 5", p.of(3, 0), 34);
      ruled(p, "learns 1;");
      due("all", p.of(3, 0), 62);
      due("another child", p.of(2, 0), 0);
    });
    says("1 how many holes it heard", () -> {
      PianolaRolls p = ruled(with(2, "1111111111111111", "12345"), "wears 0;");
      due("none", p.of(0, 1), 0);
      p.play(1, 0);
      due("5", p.of(0, 1), 5);
      p.play(0, 0);
      due("21", p.of(0, 1), 21);
      p.forget(0, 1);
      due("those of a forgotten key aside", p.of(0, 1), 4);
      due("another child", p.of(1, 1), 0);
    });
    says("2 the KEY it heard most (NONE: none)", () -> {
      PianolaRolls p = with(2, "5", "4", "1");
      due("none", p.of(0, 2), NONE);
      p.play(2, 0);
      due("1", p.of(0, 2), 1);
      p.forget(0, 1);
      p.play(0, 0);
      due("5", p.of(0, 2), 5);
      p.play(1, 0);
      p.play(1, 0);
      due("4", p.of(0, 2), 4);
      p.forget(0, 4);
      due("5 again", p.of(0, 2), 5);
      p.forget(0, 5);
      due("none again", p.of(0, 2), NONE);
      due("another child", p.of(1, 2), NONE);
    });
    says("NONE for others", () -> {
      PianolaRolls p = lived();
      for (int what = 0; what < 3; what++) {
        for (int child : beyond(0, 1)) due("of(" + child + ", " + what + ")", p.of(child, what), NONE);
      }
      for (int what : beyond(0, 2)) due("of(0, " + what + ")", p.of(0, what), NONE);
    });
  }

  private static void heard() {
    says("How often a CHILD heard a KEY (1 .. 5)", () -> {
      PianolaRolls p = with(4, "544333221");
      p.play(0, 3);
      int[] heard = {1, 2, 3, 2, 1};
      for (int key = 1; key <= 5; key++) {
        due("key " + key, p.heard(3, key), heard[key - 1]);
        due("another child", p.heard(0, key), 0);
      }
    });
    says("NONE for others", () -> {
      PianolaRolls p = lived();
      for (int child : beyond(0, 1)) due("child " + child, p.heard(child, 1), NONE);
      for (int key : beyond(1, 5)) due("key " + key, p.heard(1, key), NONE);
    });
  }

  private static void ofRoll() {
    says("Of a ROLL: 0 how many PLACES", () -> {
      PianolaRolls p = with("1", "10", "102", "0000", SIXTEEN_ONES);
      int[] places = {1, 2, 3, 4, 16};
      for (int roll = 0; roll < 5; roll++) due("roll " + roll, p.ofRoll(roll, 0), places[roll]);
    });
    says("1 how many holes", () -> {
      PianolaRolls p = with("0", "10", "102", "0000", SIXTEEN_ONES);
      int[] holes = {0, 1, 2, 0, 16};
      for (int roll = 0; roll < 5; roll++) due("roll " + roll, p.ofRoll(roll, 1), holes[roll]);
      wear(p, 4, 9, 0, 15);
      due("torn or not", p.ofRoll(4, 1), 16);
    });
    says("2 TORN PLACES (bits)", () -> {
      PianolaRolls p = with("1234", "0000000000000000");
      due("none", p.ofRoll(0, 2), 0);
      wear(p, 0, 8, 0, 1, 2);
      due("wear 8", p.ofRoll(0, 2), 0);
      wear(p, 0, 9, 0, 3);
      due("first and last", p.ofRoll(0, 2), 9);
      for (int at = 0; at < 16; at++) p.worn(1, at, 9);
      due("silent ones, all", p.ofRoll(1, 2), 0xffff);
    });
    says("3 KEYS in it (bits)", () -> {
      PianolaRolls p = with("0", "1", "5505", "123451");
      int[] keys = {0, 2, 32, 62};
      for (int roll = 0; roll < 4; roll++) due("roll " + roll, p.ofRoll(roll, 3), keys[roll]);
      wear(p, 1, 9, 0);
      due("torn or not", p.ofRoll(1, 3), 2);
    });
    says("4 TEARS: behind how many PLAYINGS (99 at most), SUNDAY being as now, a PLACE with a hole is TORN first", () -> {
      PianolaRolls p = with("10", "1");
      for (int wear = 0; wear <= 9; wear++) {
        p.worn(0, 0, wear);
        due("of wear " + wear, p.ofRoll(0, 4), 9 - wear);
      }
      p.worn(0, 0, 2);
      p.worn(0, 1, 9);
      due("a torn place without a hole doesn't count", p.ofRoll(0, 4), 7);
      p.hole(0, 1, 1);
      due("with one it does", p.ofRoll(0, 4), 0);
      for (int wears = 0; wears <= 10; wears++) {
        PianolaRolls q = ruled(with("1"), "wears " + wears + ";");
        due("wears " + wears, q.ofRoll(0, 4), wears == 0 ? 99 : (8 + Math.min(9, wears)) / Math.min(9, wears));
      }
      PianolaRolls never = with("00");
      due("no hole", never.ofRoll(0, 4), 99);
      ruled(p, "wears 8-wear;");
      due("up to wear 8 alone", p.ofRoll(1, 4), 99);
      ruled(p, "wears sunday;");
      due("never on Sunday 0", p.ofRoll(1, 4), 99);
      p.sunday(2);
      due("on Sunday 2", p.ofRoll(1, 4), 5);
      PianolaRolls first = ruled(with("11111"), "wears place;");
      due("the one that is first", first.ofRoll(0, 4), 3);
    });
    says("NONE for others", () -> {
      PianolaRolls p = lived();
      for (int what = 0; what < 5; what++) {
        for (int roll : beyond(0, 1)) due("ofRoll(" + roll + ", " + what + ")", p.ofRoll(roll, what), NONE);
      }
      for (int what : beyond(0, 4)) due("ofRoll(0, " + what + ")", p.ofRoll(0, what), NONE);
    });
  }

  private static void placeOf() {
    says("Of a PLACE of a ROLL: 0 KEY, 1 WEAR, 2 wears now", () -> {
      PianolaRolls p = with("1", "0000000000000005");
      p.worn(1, 15, 9);
      int[] last = {5, 9, 1};
      int[] first = {1, 0, 1};
      for (int what = 0; what < 3; what++) {
        due("at(1, 15, " + what + ")", p.at(1, 15, what), last[what]);
        due("at(0, 0, " + what + ")", p.at(0, 0, what), first[what]);
      }
      ruled(p, "wears wear-roll-key+sunday;");
      due("wears", p.at(1, 15, 2), 3);
      due("0 at least", p.at(0, 0, 2), 0);
      p.sunday(60);
      due("9 at most", p.at(1, 15, 2), 9);
    });
    says("NONE for others", () -> {
      PianolaRolls p = lived();
      for (int what = 0; what < 3; what++) {
        for (int roll : beyond(0, 1)) due("at(" + roll + ", 0, " + what + ")", p.at(roll, 0, what), NONE);
        for (int at : beyond(0, 2)) due("at(0, " + at + ", " + what + ")", p.at(0, at, what), NONE);
        due("place 2 of a roll of two", p.at(1, 2, what), NONE);
      }
      for (int what : beyond(0, 2)) due("at(0, 0, " + what + ")", p.at(0, 0, what), NONE);
    });
  }

  private static void law() {
    says("blurs (blurs true), learns (blurs false; of its KEY) now", () -> {
      PianolaRolls p = with(4, "1", "0000000000000005");
      p.worn(1, 15, 9);
      due("blurs", p.law(1, 15, 3, true), 4);
      due("learns", p.law(1, 15, 3, false), 3);
      ruled(p, "blurs sunday*5+who;learns key*10+who+sunday;");
      due("blurs", p.law(1, 15, 3, true), 3);
      due("learns, of its KEY", p.law(1, 15, 3, false), 53);
      due("learns, of another", p.law(0, 0, 0, false), 10);
      p.sunday(1);
      due("blurs", p.law(1, 15, 3, true), 8);
      due("learns", p.law(1, 15, 3, false), 54);
      p.sunday(60);
      due("10 at most", p.law(1, 15, 3, true), 10);
      due("99 at most", p.law(1, 15, 3, false), 99);
    });
    says("NONE for others", () -> {
      PianolaRolls p = lived();
      for (int blurs = 0; blurs < 2; blurs++) {
        for (int roll : beyond(0, 1)) due("roll " + roll, p.law(roll, 0, 0, blurs == 1), NONE);
        for (int at : beyond(0, 2)) due("place " + at, p.law(0, at, 0, blurs == 1), NONE);
        for (int child : beyond(0, 1)) due("child " + child, p.law(0, 0, child, blurs == 1), NONE);
        due("place 2 of a roll of two", p.law(1, 2, 0, blurs == 1), NONE);
      }
    });
  }

  private static void is() {
    says("0 SUNDAY, 1 X, 2 ROLLS, 3 CHILDREN", () -> {
      PianolaRolls p = with(3, "0", "0");
      p.sunday(1);
      int[] is = {1, nextX(nextX(269)), 2, 3};
      for (int what = 0; what < 4; what++) due("is(" + what + ")", p.is(what), is[what]);
    });
    says("-2 for others", () -> {
      for (int what : beyond(0, 3)) due("is(" + what + ")", lived().is(what), -2);
    });
  }

  private static void book() {
    says("BOOK: how many (i NONE)", () -> {
      PianolaRolls p = with(1, "1");
      for (int i = 0; i <= 35; i++) {
        due("behind " + i + " playings", p.book(NONE, 0), Math.min(30, i));
        p.play(0, 0);
      }
    });
    says("the i-th, from the eldest on: 0 SUNDAY, 1 ROLL, 2 CHILD, 3 how many were heard", () -> {
      PianolaRolls p = with(2, "1", "22");
      p.play(1, 0);
      p.sunday(1);
      p.play(0, 1);
      // On that Sunday X is two draws on: 28887 is odd, 17 is, too.
      due("three", pages(p), " book 0/1/0/2 0/1/1/2 1/0/1/1");
      for (int i = 0; i < 28; i++) p.play(0, 0);
      due("the eldest is the second now", p.book(0, 2), 1);
      due("SUNDAY of the next", p.book(1, 0), 1);
      due("CHILD of the latest", p.book(29, 2), 0);
    });
    says("-2 if there is none such", () -> {
      PianolaRolls p = with(1, "1");
      due("none", p.book(0, 0), -2);
      p.play(0, 0);
      for (int what = 0; what < 4; what++) {
        for (int i : beyond(-1, 0)) due("book(" + i + ", " + what + ")", p.book(i, what), -2);
      }
      for (int i = 0; i < 40; i++) p.play(0, 0);
      for (int i : beyond(-1, 29)) due("book(" + i + ", 0)", p.book(i, 0), -2);
      due("book(29, 0)", p.book(29, 0), 0);
      p.undo();
      p.back();
      due("none again", p.book(0, 0), -2);
    });
    says("and for others", () -> {
      PianolaRolls p = lived();
      for (int what : beyond(0, 3)) due("book(0, " + what + ")", p.book(0, what), -2);
    });
  }

  private static void foretold() {
    says("FORETOLD: how often a CHILD heard a KEY then", () -> {
      PianolaRolls p = with(2, "1", "55");
      PianolaRolls twin = with(2, "1", "55");
      twin.sunday(60);
      for (int child = 0; child < 2; child++) {
        for (int key = 1; key <= 5; key++) due("child " + child + ", key " + key, p.foretold(60, child, key), twin.heard(child, key));
      }
      PianolaRolls most = ruled(with(1, SIXTEEN_ONES), "wears 0;");
      due("16", most.foretold(1, 0, 1), 16);
      due("99 at most", most.foretold(7, 0, 1), 99);
    });
    says("NONE for others", () -> {
      PianolaRolls p = lived();
      unchanged(p, () -> {
        for (int n : beyond(1, 60)) due("n " + n, p.foretold(n, 0, 1), NONE);
        for (int child : beyond(0, 1)) due("child " + child, p.foretold(1, child, 1), NONE);
        for (int key : beyond(1, 5)) due("key " + key, p.foretold(1, 0, key), NONE);
      });
    });
  }

  private static void edit() {
    says("CHANGES", () -> {
      PianolaRolls p = with("1", "2345123451234512", "0000000000000000", "1");
      due("itself", p.edit(0, 0), 0);
      due("the same", p.edit(0, 3), 0);
      due("15 put in", p.edit(0, 1), 15);
      due("15 left out", p.edit(1, 0), 15);
      due("16 changed", p.edit(1, 2), 16);
      due("16", p.edit(0, 2), 16);
    });
    says("NONE for others", () -> {
      PianolaRolls p = lived();
      for (int roll : beyond(0, 1)) {
        due("edit(" + roll + ", 0)", p.edit(roll, 0), NONE);
        due("edit(0, " + roll + ")", p.edit(0, roll), NONE);
        due("edit(" + roll + ", " + roll + ")", p.edit(roll, roll), NONE);
      }
    });
  }

  private static void common() {
    says("COMMON: how many (i NONE), the PLACE of a of the i-th", () -> {
      PianolaRolls p = with("0102030405", "12345");
      due("how many", p.common(0, 1, NONE), 5);
      for (int i = 0; i < 5; i++) {
        due("of roll 0", p.common(0, 1, i), 2 * i + 1);
        due("of roll 1", p.common(1, 0, i), i);
      }
    });
    says("-2 if there is none such", () -> {
      PianolaRolls p = with("12", "12", "3");
      for (int i : beyond(-1, 1)) due("i " + i, p.common(0, 1, i), -2);
      due("none", p.common(0, 2, 0), -2);
      due("how many", p.common(0, 2, NONE), 0);
    });
    says("and for others", () -> {
      PianolaRolls p = lived();
      for (int roll : beyond(0, 1)) {
        for (int i = -1; i <= 0; i++) {
          due("common(" + roll + ", 0, " + i + ")", p.common(roll, 0, i), -2);
          due("common(0, " + roll + ", " + i + ")", p.common(0, roll, i), -2);
        }
      }
    });
  }

  private static void phrase() {
    says("THE PHRASE: how many KEYS it has (key NONE: none any more)", () -> {
      PianolaRolls p = with("012345");
      due("none", p.phrase(NONE), 0);
      for (int i = 0; i < 8; i++) due("phrase(" + i % 6 + ")", p.phrase(i % 6), i + 1);
      due("none any more", p.phrase(NONE), 0);
      due("keys", p.about(5), 0);
      due("a first one again", p.phrase(5), 1);
      due("it alone", p.fits(0, 0), 32);
    });
    says("-2 for others", () -> {
      PianolaRolls p = lived();
      unchanged(p, () -> {
        for (int key : beyond(-1, 5)) due("phrase(" + key + ")", p.phrase(key), -2);
      });
    });
    says("or if it has 8", () -> {
      PianolaRolls p = with("00000000");
      for (int i = 0; i < 8; i++) p.phrase(0);
      unchanged(p, () -> {
        for (int key = 0; key <= 5; key++) due("phrase(" + key + ")", p.phrase(key), -2);
      });
    });
  }

  private static void fits() {
    says("FITS (bits)", () -> {
      PianolaRolls p = with("1", "2111111111111112");
      p.phrase(2);
      due("none", p.fits(0, 0), 0);
      due("first and last", p.fits(1, 0), 0x8001);
      due("one unlike", p.fits(0, 1), 1);
      due("all by one unlike", p.fits(1, 1), 0xffff);
    });
    says("NONE for others (0 .. 8)", () -> {
      PianolaRolls p = lived();
      for (int unlike = 0; unlike <= 8; unlike++) due("unlike " + unlike, p.fits(0, unlike) >= 0, true);
      for (int unlike : beyond(0, 8)) due("unlike " + unlike, p.fits(0, unlike), NONE);
      for (int roll : beyond(0, 1)) due("roll " + roll, p.fits(roll, 0), NONE);
    });
  }

  private static void nearest() {
    says("NEAREST: the PLACE", () -> {
      PianolaRolls p = with("1", "1111111111111112");
      p.phrase(2);
      due("the last of 16", p.nearest(1), 15);
      due("of one", p.nearest(0), 0);
    });
    says("NONE: none", () -> {
      PianolaRolls p = with("12");
      due("empty", p.nearest(0), NONE);
      for (int i = 0; i < 8; i++) {
        p.phrase(1);
        due(i + 1 + " keys", p.nearest(0), i < 2 ? 0 : NONE);
      }
    });
    says("and for others", () -> {
      PianolaRolls p = lived();
      for (int roll : beyond(0, 1)) due("roll " + roll, p.nearest(roll), NONE);
    });
  }

  private static void motif() {
    says("A MOTIF: how many PLACES (first false), the first one (first true; NONE: none)", () -> {
      PianolaRolls p = with("5", "12", "5121", SIXTEEN_ONES);
      int[] many = {0, 0, 1, 15};
      int[] first = {NONE, NONE, 1, 0};
      for (int roll = 0; roll < 4; roll++) {
        due("how many of roll " + roll, p.motif(roll, false), many[roll]);
        due("first of roll " + roll, p.motif(roll, true), first[roll]);
      }
    });
    says("-2 for others", () -> {
      PianolaRolls p = lived();
      for (int roll : beyond(0, 1)) {
        due("motif(" + roll + ", false)", p.motif(roll, false), -2);
        due("motif(" + roll + ", true)", p.motif(roll, true), -2);
      }
    });
  }

  private static void mirror() {
    says("A MIRROR: how many PLACES (first false), the first one (first true)", () -> {
      PianolaRolls p = with("5", "12", "5121", SIXTEEN_ONES);
      int[] many = {1, 1, 3, 16};
      int[] first = {0, 0, 1, 0};
      for (int roll = 0; roll < 4; roll++) {
        due("how many of roll " + roll, p.mirror(roll, false), many[roll]);
        due("first of roll " + roll, p.mirror(roll, true), first[roll]);
      }
    });
    says("-2 for others", () -> {
      PianolaRolls p = lived();
      for (int roll : beyond(0, 1)) {
        due("mirror(" + roll + ", false)", p.mirror(roll, false), -2);
        due("mirror(" + roll + ", true)", p.mirror(roll, true), -2);
      }
    });
  }

  private static void clash() {
    says("CLASHES", () -> {
      PianolaRolls p = with(SIXTEEN_ONES, "1");
      due("off 0", p.clash(0, 0, 0), 16);
      due("off 15", p.clash(0, 1, 15), 1);
      due("off 16", p.clash(0, 1, 16), 0);
      due("off 1", p.clash(1, 0, 1), 0);
    });
    says("NONE for others (0 .. 16)", () -> {
      PianolaRolls p = lived();
      for (int off = 0; off <= 16; off++) due("off " + off, p.clash(0, 1, off) >= 0, true);
      for (int off : beyond(0, 16)) due("off " + off, p.clash(0, 1, off), NONE);
      for (int roll : beyond(0, 1)) {
        due("clash(" + roll + ", 0, 0)", p.clash(roll, 0, 0), NONE);
        due("clash(0, " + roll + ", 0)", p.clash(0, roll, 0), NONE);
      }
    });
  }

  private static void together() {
    says("TOGETHER", () -> {
      PianolaRolls p = with(SIXTEEN_ONES, "2", "1");
      due("never", p.together(0, 1), 0);
      due("up to 16", p.together(0, 0), 16);
      due("of one place", p.together(2, 0), 1);
    });
    says("NONE for others", () -> {
      PianolaRolls p = lived();
      for (int roll : beyond(0, 1)) {
        due("together(" + roll + ", 0)", p.together(roll, 0), NONE);
        due("together(0, " + roll + ")", p.together(0, roll), NONE);
      }
    });
  }

  private static void stair() {
    says("A STAIR: how many KEYS (i NONE), the i-th ROLL", () -> {
      PianolaRolls p = with("12", "51", "3", "45", "2");
      due("3 4 5 1 2", p.stair(15, NONE), 5);
      // 51 is over the seam of 45 and 12 already.
      int[] order = {2, 3, 0, 1};
      for (int i = 0; i < 4; i++) due("the " + i + "-th", p.stair(15, i), order[i]);
      due("of all five", p.stair(31, NONE), 5);
      due("the fifth", p.stair(31, 4), 4);
    });
    says("-2: none", () -> {
      PianolaRolls p = with("12", "3");
      due("of none", p.stair(0, NONE), -2);
      p.worn(1, 0, 9);
      due("one is torn", p.stair(3, NONE), -2);
      due("one is torn", p.stair(3, 0), -2);
      due("the other isn't", p.stair(1, NONE), 2);
    });
    says("there is none such", () -> {
      PianolaRolls p = with("12", "3", "4", "5", "0");
      for (int rolls = 1; rolls < 32; rolls++) {
        int many = Integer.bitCount(rolls);
        due("the last of " + rolls, p.stair(rolls, many - 1) >= 0, true);
        for (int i : beyond(-1, many - 1)) due("stair(" + rolls + ", " + i + ")", p.stair(rolls, i), -2);
      }
    });
    says("and for others", () -> {
      PianolaRolls p = lived();
      wear(p, 0, 0, 0, 1, 2);
      due("both", p.stair(3, NONE), 5);
      for (int rolls : beyond(1, 3)) due("stair(" + rolls + ", -1)", p.stair(rolls, NONE), -2);
      PianolaRolls five = with("1", "2", "3", "4", "5");
      for (int rolls : beyond(1, 31)) due("stair(" + rolls + ", 0)", five.stair(rolls, 0), -2);
      due("without rolls", new PianolaRolls().stair(1, NONE), -2);
    });
  }

  private static void fills() {
    says("FILLS", () -> {
      PianolaRolls p = with("12");
      p.phrase(3);
      due("none", p.fills(0), 0);
      p.worn(0, 1, 9);
      due("one", p.fills(0), 1);
      p.phrase(NONE);
      due("all", p.fills(0), 6);
    });
    says("NONE for others", () -> {
      PianolaRolls p = lived();
      for (int roll : beyond(0, 1)) due("roll " + roll, p.fills(roll), NONE);
    });
    says("or if more than 4 are TORN", () -> {
      PianolaRolls p = with("0000000000000000");
      for (int at = 0; at < 16; at++) {
        due(at + " are torn", p.fills(0) == NONE, at > 4);
        p.worn(0, at, 9);
      }
      due("16 are torn", p.fills(0), NONE);
    });
  }

  private static void teaches() {
    says("TEACHING: how often ROLLS are PLAYED in all (i NONE), ROLL i", () -> {
      PianolaRolls p = with(4, "1", "2", "3", "4", "5");
      due("key 5", p.teaches(3, 32, NONE), 3);
      due("by roll 4", p.teaches(3, 32, 4), 3);
      due("not by roll 0", p.teaches(3, 32, 0), 0);
      due("no key", p.teaches(3, 0, NONE), 0);
      due("no key, roll 4", p.teaches(3, 0, 4), 0);
    });
    says("-2: none", () -> {
      PianolaRolls p = with(1, "1", "2", "3");
      due("9 times would be needed", p.teaches(0, 14, NONE), -2);
      due("9 times would be needed", p.teaches(0, 14, 0), -2);
      due("6 are not too many", p.teaches(0, 12, NONE), 6);
      due("in no roll", p.teaches(0, 16, NONE), -2);
    });
    says("there is none such", () -> {
      PianolaRolls p = with(1, "1", "2");
      for (int i : beyond(-1, 1)) {
        due("teaches(0, 2, " + i + ")", p.teaches(0, 2, i), -2);
        due("teaches(0, 0, " + i + ")", p.teaches(0, 0, i), -2);
      }
      due("without rolls", with(1).teaches(0, 0, 0), -2);
    });
    says("and for others", () -> {
      PianolaRolls p = lived();
      for (int child : beyond(0, 1)) due("child " + child, p.teaches(child, 2, NONE), -2);
      for (int keys = 1; keys < 64; keys += 2) due("keys " + keys, p.teaches(0, keys, NONE), -2);
      for (int bit = 6; bit < 32; bit++) due("keys 1 << " + bit, p.teaches(0, 1 << bit, NONE), -2);
    });
  }

  private static void likely() {
    says("LIKELY: the upper (low false), the lower one (low true)", () -> {
      PianolaRolls p = ruled(with(4, "1", "55"), "blurs 3;");
      due("upper", p.likely(1, 3, 5, 2, false), 49);
      due("lower", p.likely(1, 3, 5, 2, true), 100);
      due("upper", p.likely(1, 3, 5, 1, false), 91);
      due("upper of none", p.likely(1, 3, 1, 1, false), 0);
      due("lower of none", p.likely(1, 3, 1, 1, true), 1);
    });
    says("NONE for others", () -> {
      PianolaRolls p = lived();
      for (int low = 0; low < 2; low++) {
        for (int roll : beyond(0, 1)) due("roll " + roll, p.likely(roll, 0, 1, 1, low == 1), NONE);
        for (int child : beyond(0, 1)) due("child " + child, p.likely(0, child, 1, 1, low == 1), NONE);
        for (int key : beyond(1, 5)) due("key " + key, p.likely(0, 0, key, 1, low == 1), NONE);
        for (int n : beyond(0, 16)) due("n " + n, p.likely(0, 0, 1, n, low == 1), NONE);
      }
    });
  }

  private static void parts() {
    says("PARTS", () -> {
      PianolaRolls p = with("1", "11", "12", "1234512345123451");
      int[] parts = {1, 2, 2, 6};
      for (int roll = 0; roll < 4; roll++) due("roll " + roll, p.parts(roll), parts[roll]);
    });
    says("NONE for others", () -> {
      PianolaRolls p = lived();
      for (int roll : beyond(0, 1)) due("roll " + roll, p.parts(roll), NONE);
    });
  }

  private static void alike() {
    says("ALIKE: 10 times the lower ROLL, and the other one", () -> {
      PianolaRolls p = with("11111", "22222", "33333", "4444", "4445");
      due("3 and 4", p.alike(), 34);
      p.hole(4, 0, 5);
      p.hole(4, 1, 5);
      p.hole(4, 2, 5);
      p.hole(2, 0, 1);
      p.hole(2, 1, 1);
      p.hole(2, 2, 1);
      due("0 and 2", p.alike(), 2);
    });
    says("NONE: there are not two", () -> {
      PianolaRolls p = new PianolaRolls();
      due("none", p.alike(), NONE);
      p.roll(1);
      due("one", p.alike(), NONE);
      p.roll(1);
      due("two", p.alike(), 1);
      p.back();
      due("none again", p.alike(), NONE);
    });
  }

  private static void said() {
    says("SAID: how many there are (child NONE: none any more)", () -> {
      PianolaRolls p = with(4);
      due("none", p.said(NONE, 0, 0), 0);
      due("the least", p.said(0, 1, 0), 1);
      due("the most", p.said(3, 5, 99), 2);
      due("again", p.said(3, 5, 99), 3);
      due("how many", p.about(6), 3);
      due("none any more", p.said(NONE, 1, 1), 0);
      due("how many", p.about(6), 0);
    });
    says("-2 for others", () -> {
      PianolaRolls p = lived();
      unchanged(p, () -> {
        for (int child : beyond(-1, 1)) due("child " + child, p.said(child, 1, 1), -2);
        for (int key : beyond(1, 5)) due("key " + key, p.said(0, key, 1), -2);
        for (int learns : beyond(0, 99)) due("learns " + learns, p.said(0, 1, learns), -2);
      });
    });
    says("or if there are 8", () -> {
      PianolaRolls p = lived();
      for (int i = 2; i <= 8; i++) due("said", p.said(0, 1, 3), i);
      unchanged(p, () -> due("a ninth", p.said(0, 1, 4), -2));
    });
  }

  private static void whose() {
    says("WHOSE LAW (bits)", () -> {
      PianolaRolls p = with(1, "1");
      for (int i = 0; i < 4; i++) {
        due("of " + i, p.whose(), (1 << i) - 1);
        read(p, "learns " + i + ";");
      }
      due("all", p.whose(), 15);
      p.said(0, 1, 3);
      due("the last", p.whose(), 8);
      p.said(0, 2, 0);
      due("none", p.whose(), 0);
      p.back();
      due("no texts", p.whose(), 0);
    });
  }

  private static void best() {
    says("BEST TAUGHT", () -> {
      PianolaRolls p = ruled(with(4, "5"), "learns 1;");
      p.play(0, 3);
      due("the last child", p.best(), 3);
      p.play(0, 0);
      due("the first", p.best(), 0);
    });
    says("NONE: none", () -> {
      due("no child", new PianolaRolls().best(), NONE);
      due("nothing heard", with(4, "5").best(), NONE);
    });
  }

  private static void loved() {
    says("MOST WORN", () -> {
      PianolaRolls p = with("1", "1", "1", "1", "0000000000000000");
      p.worn(4, 15, 1);
      due("the last roll", p.loved(), 4);
      p.worn(0, 0, 1);
      due("the first", p.loved(), 0);
    });
    says("NONE: none", () -> {
      due("no roll", new PianolaRolls().loved(), NONE);
      due("not worn", with("1", "2").loved(), NONE);
    });
  }

  private static void dumb() {
    says("DUMB (bits)", () -> {
      due("no roll", new PianolaRolls().dumb(), 0);
      PianolaRolls p = with("0", "1", "0", "1", "0000000000000000");
      due("0, 2 and 4", p.dumb(), 21);
      p.hole(4, 15, 5);
      due("0 and 2", p.dumb(), 5);
    });
  }

  private static void ledger() {
    says("BY THE BOOK", () -> {
      PianolaRolls p = with(1, "0", "0", "0", "0", "0");
      for (int roll = 0; roll < 5; roll++) {
        for (int i = 0; i < roll; i++) p.play(roll, 0);
      }
      for (int roll = 0; roll < 5; roll++) due("roll " + roll, p.ledger(roll), roll);
      due("all", p.ledger(NONE), 10);
    });
    says("-2 for others", () -> {
      PianolaRolls p = lived();
      for (int roll : beyond(-1, 1)) due("ledger(" + roll + ")", p.ledger(roll), -2);
      due("NONE without a roll", new PianolaRolls().ledger(NONE), 0);
    });
  }

  private static void image() {
    says("THE IMAGE is as all is now: SUNDAY", () -> {
      PianolaRolls p = lived();
      unchanged(p, () -> due("image()", p.image(), 1));
      String first = state(p);
      p.sunday(5);
      due("back", p.back(), 1);
      due("the first image", state(p), first);
      passTo(p, 9999);
      String last = state(p);
      due("the last Sunday", p.image(), 9999);
      due("back to it", p.back(), 9999);
      due("the second image", state(p), last);
    });
  }

  private static void back() {
    says("BACK to THE IMAGE (it stays): SUNDAY", () -> {
      PianolaRolls p = lived();
      p.image();
      String image = state(p);
      for (int i = 0; i < 3; i++) {
        p.sunday(1 + i);
        p.worn(0, 0, 9);
        due("back()", p.back(), 1);
        due("as it was", state(p), image);
      }
      due("twice behind one another", p.back(), 1);
      due("as it was", state(p), image);
    });
  }

  private static void about() {
    says("0 ROLLS, 1 CHILDREN, 2 TEXTS, 3 THE TEXT (NONE), 4 STEPS that can be taken back, 5 KEYS of THE PHRASE, 6 SAID, 7 bytes of the tape", () -> {
      PianolaRolls p = new PianolaRolls();
      due("at first", state(p).substring(0, 22), "about 0 0 0 -1 0 0 0 0");
      for (int i = 0; i < 5; i++) p.roll(1);
      for (int i = 0; i < 4; i++) p.child();
      for (int i = 0; i < 4; i++) read(p, "");
      p.by(3);
      p.sunday(60);
      for (int i = 0; i < 8; i++) p.phrase(1);
      for (int i = 0; i < 8; i++) p.said(0, 1, 1);
      for (int i = 0; i < 15; i++) p.feed(0, 0, 0, 0, 0);
      int[] most = {5, 4, 4, 3, 30, 8, 8, 300};
      for (int what = 0; what < 8; what++) due("about(" + what + ")", p.about(what), most[what]);
    });
    says("-2 for others", () -> {
      for (int what : beyond(0, 7)) due("about(" + what + ")", lived().about(what), -2);
    });
  }
}
