/** Promises 1 to 17, by which something is told or done, and the limit of calls: sentence by sentence. */
public final class DoingTest extends Sentences {
  public static void main(String[] args) {
    open("calls", between(document(), "==== I.", "## The public face"));
    says("An object is used for at most 512 calls after it has been made; what later calls answer is free", DoingTest::allCalls);
    close();
    Runnable[] promises = {
      DoingTest::newObject, DoingTest::roll, DoingTest::hole, DoingTest::worn, DoingTest::child, DoingTest::feed,
      DoingTest::end, DoingTest::text, DoingTest::fault, DoingTest::by, DoingTest::play, DoingTest::patch,
      DoingTest::forget, DoingTest::sunday, DoingTest::played, DoingTest::years, DoingTest::undo};
    for (int i = 0; i < promises.length; i++) {
      promise(i + 1);
      promises[i].run();
      close();
    }
    finish("promises 1 to 17: " + tests() + " tests");
  }

  private static void allCalls() {
    PianolaRolls p = with(1, "1");
    // Three calls have been made: with these there are 512.
    int x = 269;
    int heard = 0;
    for (int i = 0; i < 254; i++) {
      boolean sounds = i < 9;
      int wear = Math.min(9, i);
      int hears = sounds && x % 10 >= wear / 2 ? 1 : 0;
      heard += hears;
      due("play " + i, p.play(0, 0), hears);
      if (sounds) x = nextX(x);
      due("heard " + i, p.heard(0, 1), heard);
    }
    due("the last call", p.is(1), x);
  }

  private static void newObject() {
    says("No roll", () -> {
      PianolaRolls p = new PianolaRolls();
      due("all as at first", state(p), "about 0 0 0 -1 0 0 0 0 is 0 269 0 0 fault -1 -1 whose 0 book");
      due("ofRoll(0, 0)", p.ofRoll(0, 0), NONE);
      due("undo()", p.undo(), NONE);
      PianolaRolls other = with(1, "1");
      due("another object has its own", new PianolaRolls().is(2), 0);
      due("as has this one", other.is(2), 1);
    });
    says("THE IMAGE is this", () -> {
      PianolaRolls p = lived();
      int tape = p.about(7);
      due("back()", p.back(), 0);
      due("as at first, but the tape and the fault", state(p),
          "about 0 0 0 -1 0 0 0 " + tape + " is 0 269 0 0 fault 0 -1 whose 0 book");
      due("undo()", p.undo(), NONE);
      due("a first roll", p.roll(1), 0);
      due("a first child", p.child(), 0);
    });
  }

  private static void roll() {
    says("A ROLL of n silent PLACES: its number", () -> {
      PianolaRolls p = new PianolaRolls();
      int[] sizes = {16, 1, 9, 15, 2};
      for (int i = 0; i < 5; i++) {
        due("roll(" + sizes[i] + ")", p.roll(sizes[i]), i);
        due("places", p.ofRoll(i, 0), sizes[i]);
        due("holes", p.ofRoll(i, 1), 0);
        due("wear", p.loved(), NONE);
      }
    });
    says("NONE for others (1 .. 16)", () -> {
      PianolaRolls p = lived();
      unchanged(p, () -> {
        for (int n : beyond(1, 16)) due("roll(" + n + ")", p.roll(n), NONE);
      });
    });
    says("or if there are 5", () -> {
      PianolaRolls p = with("1", "2", "3", "4");
      due("the fifth", p.roll(1), 4);
      unchanged(p, () -> {
        for (int n = 1; n <= 16; n++) due("roll(" + n + ")", p.roll(n), NONE);
      });
    });
  }

  private static void hole() {
    says("A HOLE (key 0: none): true", () -> {
      PianolaRolls p = with("000", "0000000000000000");
      for (int key = 5; key >= 0; key--) {
        due("hole(1, 15, " + key + ")", p.hole(1, 15, key), true);
        due("its key", p.at(1, 15, 0), key);
        due("holes", p.ofRoll(1, 1), key == 0 ? 0 : 1);
      }
      due("of roll 0", p.ofRoll(0, 1), 0);
      p.worn(0, 0, 9);
      due("of a torn place", p.hole(0, 0, 3), true);
      due("it is torn yet", p.at(0, 0, 1), 9);
      due("its key", p.at(0, 0, 0), 3);
    });
    says("False for others", () -> {
      PianolaRolls p = lived();
      unchanged(p, () -> {
        for (int roll : beyond(0, 1)) due("roll " + roll, p.hole(roll, 0, 4), false);
        for (int at : beyond(0, 2)) due("place " + at, p.hole(0, at, 4), false);
        for (int key : beyond(0, 5)) due("key " + key, p.hole(0, 0, key), false);
        due("place 2 of a roll of two", p.hole(1, 2, 4), false);
      });
    });
  }

  private static void worn() {
    says("WEAR told: true", () -> {
      PianolaRolls p = with("10", "0000000000000000");
      for (int wear = 9; wear >= 0; wear--) {
        due("worn(1, 15, " + wear + ")", p.worn(1, 15, wear), true);
        due("its wear", p.at(1, 15, 1), wear);
      }
      due("of roll 0", p.at(0, 0, 1) + p.at(0, 1, 1), 0);
      due("no step", p.about(4), 0);
    });
    says("False for others", () -> {
      PianolaRolls p = lived();
      unchanged(p, () -> {
        for (int roll : beyond(0, 1)) due("roll " + roll, p.worn(roll, 0, 4), false);
        for (int at : beyond(0, 2)) due("place " + at, p.worn(0, at, 4), false);
        for (int wear : beyond(0, 9)) due("wear " + wear, p.worn(0, 0, wear), false);
        due("place 2 of a roll of two", p.worn(1, 2, 4), false);
      });
      p.undo();
      p.undo();
      due("none was told to steps either", p.loved(), NONE);
    });
  }

  private static void child() {
    says("A CHILD: its number", () -> {
      PianolaRolls p = new PianolaRolls();
      for (int i = 0; i < 4; i++) {
        due("child()", p.child(), i);
        due("children", p.is(3), i + 1);
        due("it heard nothing", p.of(i, 1), 0);
      }
    });
    says("NONE if there are 4", () -> {
      PianolaRolls p = with(4, "1");
      unchanged(p, () -> due("child()", p.child(), NONE));
    });
  }

  private static void feed() {
    says("Twenty bytes come behind the tape, the highest of a first: how many it has", () -> {
      PianolaRolls p = new PianolaRolls();
      String text = "child;sunday 12; play 0 to 3;forget 5 by 1;";
      due("20 of them", p.feed(0x6368696c, 0x643b7375, 0x6e646179, 0x2031323b, 0x20706c61), 20);
      due("40 of them", p.feed(0x79203020, 0x746f2033, 0x3b666f72, 0x67657420, 0x35206279), 40);
      due("60 of them", p.feed(0x20313b00, -1, Integer.MIN_VALUE, Integer.MAX_VALUE, 0), 60);
      p.end(text.length());
      due("it is read", p.text(), 0);
      PianolaRolls high = new PianolaRolls();
      // Bytes of 128 and above are bytes, not numbers below 0.
      high.feed(0x6368696c, 0x643b0a0a, 0x0a0a0a0a, 0x0a0a0a0a, 0x0a0a0aff);
      due("a fault", high.text(), NONE);
      due("at the last one", high.fault(1), 19);
      PianolaRolls cut = new PianolaRolls();
      cut.feed(0x6368696c, 0x64000000, 0, 0, 0);
      cut.end(5);
      due("behind those that stay", cut.feed(0x3b202020, 0x20202020, 0x20202020, 0x20202020, 0x20202020), 25);
      due("it is read", cut.text(), 0);
    });
    says("NONE, and none come, if there would be more than 300", () -> {
      PianolaRolls p = new PianolaRolls();
      for (int i = 1; i <= 15; i++) due("feed", p.feed(0, 0, 0, 0, 0), 20 * i);
      unchanged(p, () -> due("301 and more", p.feed(1, 2, 3, 4, 5), NONE));
      for (int n = 299; n >= 281; n--) {
        p.end(n);
        due("behind " + n, p.feed(0, 0, 0, 0, 0), NONE);
        due("none come", p.about(7), n);
      }
      p.end(280);
      due("behind 280", p.feed(0, 0, 0, 0, 0), 300);
    });
  }

  private static void end() {
    says("The tape has its first n bytes alone: n", () -> {
      PianolaRolls p = new PianolaRolls();
      due("of none", p.end(0), 0);
      put(p, "child;child;?");
      due("all of it", p.end(13), 13);
      due("12", p.end(12), 12);
      due("6", p.end(6), 6);
      due("bytes", p.about(7), 6);
      due("the first ones", p.text(), 0);
      due("one clause", p.played(0), NONE);
      due("one child", p.is(3), 1);
      put(p, "child;");
      due("none", p.end(0), 0);
      due("bytes", p.about(7), 0);
    });
    says("NONE, and nothing is done, if it has not so many, or n is below 0", () -> {
      PianolaRolls p = new PianolaRolls();
      for (int n : beyond(0, 0)) due("end(" + n + ") of none", p.end(n), NONE);
      put(p, "child;");
      unchanged(p, () -> {
        for (int n : beyond(0, 6)) due("end(" + n + ")", p.end(n), NONE);
        due("as many as were there once", p.end(20), NONE);
      });
      due("the tape is as it was", p.text(), 0);
    });
  }

  private static void text() {
    says("The tape (empty then) is a TEXT: its number", () -> {
      PianolaRolls p = new PianolaRolls();
      due("of none", p.text(), 0);
      for (int i = 1; i < 4; i++) {
        put(p, " child\n;");
        due("text()", p.text(), i);
        due("the tape", p.about(7), 0);
        due("texts", p.about(2), i + 1);
      }
      PianolaRolls full = new PianolaRolls();
      due("of 300 bytes", read(full, times(294, " ") + "child;"), 0);
      due("the tape", full.about(7), 0);
      due("none rules by it", full.about(3), NONE);
      due("none is played by it", full.is(3), 0);
    });
    says("NONE: it has a FAULT", () -> {
      PianolaRolls p = new PianolaRolls();
      due("text()", read(p, "child"), NONE);
      due("texts", p.about(2), 0);
      due("by(0)", p.by(0), false);
      due("played(0)", p.played(0), -2);
      due("the next one is the first", read(p, "child;"), 0);
      due("a fault", read(p, "child;child;?"), NONE);
      due("the first is as it was", p.played(0), NONE);
      due("one child", p.is(3), 1);
      PianolaRolls often = with(1, "1");
      for (int i = 0; i < 20; i++) due("a long fault", read(often, "wears 1" + times(146, "+1") + "?"), NONE);
      ruled(often, "learns 1" + times(90, "+1") + ";");
      due("none of them is left in the next", often.law(0, 0, 0, false), 91);
    });
    says("or (the tape stays) there are 4", () -> {
      PianolaRolls p = new PianolaRolls();
      for (int i = 0; i < 4; i++) read(p, "wears " + i + ";");
      put(p, "child;");
      unchanged(p, () -> due("text()", p.text(), NONE));
      due("bytes", p.about(7), 6);
      put(p, "child?");
      unchanged(p, () -> due("text() of a faulty one", p.text(), NONE));
      due("nothing was read", p.fault(0), 0);
      put(p, "child;");
      p.back();
      due("the tape stayed", p.text(), 0);
    });
  }

  private static void fault() {
    says("Of the latest text that was read: 0 its FAULT (0 without), 1 its place (NONE without)", () -> {
      PianolaRolls p = new PianolaRolls();
      String[] texts = {"roll 6;", "child;", "wears 1;wears", "", "learns 1+roll;", "?"};
      int[][] faults = {{2, 5}, {0, NONE}, {4, 8}, {0, NONE}, {5, 9}, {1, 0}};
      for (int i = 0; i < texts.length; i++) {
        read(p, texts[i]);
        for (int what = 0; what < 2; what++) due("fault(" + what + ") of '" + texts[i] + "'", p.fault(what), faults[i][what]);
        p.feed(0, 0, 0, 0, 0);
        due("feeding reads nothing", p.fault(0), faults[i][0]);
      }
    });
    says("NONE for others, and ahead of any", () -> {
      PianolaRolls p = new PianolaRolls();
      for (int what = 0; what < 2; what++) due("ahead of any, " + what, p.fault(what), NONE);
      put(p, "?");
      for (int what = 0; what < 2; what++) due("put, but not read, " + what, p.fault(what), NONE);
      for (String text : new String[] {"?", "child;"}) {
        read(p, text);
        for (int what : beyond(0, 1)) due("fault(" + what + ")", p.fault(what), NONE);
      }
    });
  }

  private static void by() {
    says("THE TEXT (NONE: none): true", () -> {
      PianolaRolls p = with("1");
      due("by(NONE) without texts", p.by(NONE), true);
      for (int i = 0; i < 4; i++) read(p, "wears " + (2 + i) + ";");
      for (int i = 3; i >= 0; i--) {
        due("by(" + i + ")", p.by(i), true);
        due("THE TEXT", p.about(3), i);
        due("wears", p.at(0, 0, 2), 2 + i);
      }
      due("by(NONE)", p.by(NONE), true);
      due("THE TEXT", p.about(3), NONE);
      due("wears", p.at(0, 0, 2), 1);
    });
    says("False for others", () -> {
      PianolaRolls p = lived();
      unchanged(p, () -> {
        for (int text : beyond(-1, 0)) due("by(" + text + ")", p.by(text), false);
      });
      due("it rules yet", p.at(0, 0, 2), 2);
    });
  }

  private static void play() {
    says("PLAYED: how many holes were heard", () -> {
      PianolaRolls p = with(4, "0", "1", "1", "1", "1111111111111111");
      due("none", p.play(0, 0), 0);
      due("16 of 16", p.play(4, 3), 16);
      due("heard", p.heard(3, 1), 16);
      ruled(p, "blurs 10;");
      due("all are blurred", p.play(4, 0), 0);
      wear(p, 1, 9, 0);
      p.by(NONE);
      due("torn", p.play(1, 0), 0);
      due("steps", p.about(4), 4);
    });
    says("NONE for others", () -> {
      PianolaRolls p = lived();
      unchanged(p, () -> {
        for (int roll : beyond(0, 1)) due("roll " + roll, p.play(roll, 0), NONE);
        for (int child : beyond(0, 1)) due("child " + child, p.play(0, child), NONE);
      });
      due("without a child", with("1").play(0, 0), NONE);
      due("without a roll", with(1).play(0, 0), NONE);
    });
  }

  private static void patch() {
    says("PATCHED: true", () -> {
      PianolaRolls p = with("1", "0000000000000000");
      wear(p, 1, 9, 15);
      wear(p, 0, 1, 0);
      due("patch(1, 15)", p.patch(1, 15), true);
      due("patch(0, 0)", p.patch(0, 0), true);
      due("wear", p.loved(), NONE);
      due("steps", p.about(4), 2);
    });
    says("False, if it can't be", () -> {
      PianolaRolls p = with("11");
      wear(p, 0, 1, 1);
      unchanged(p, () -> due("not worn", p.patch(0, 0), false));
    });
    says("and for others", () -> {
      PianolaRolls p = lived();
      unchanged(p, () -> {
        for (int roll : beyond(0, 1)) due("roll " + roll, p.patch(roll, 0), false);
        for (int at : beyond(0, 2)) due("place " + at, p.patch(0, at), false);
        due("place 2 of a roll of two", p.patch(1, 2), false);
      });
    });
  }

  private static void forget() {
    says("FORGOTTEN: true", () -> {
      PianolaRolls p = with(4, "15");
      p.play(0, 3);
      due("forget(3, 5)", p.forget(3, 5), true);
      due("forget(3, 1)", p.forget(3, 1), true);
      due("heard", p.of(3, 1), 0);
      due("steps", p.about(4), 3);
    });
    says("False, if it can't be", () -> {
      PianolaRolls p = with(2, "1");
      p.play(0, 0);
      unchanged(p, () -> {
        due("never heard", p.forget(0, 2), false);
        due("the other child", p.forget(1, 1), false);
      });
    });
    says("and for others", () -> {
      PianolaRolls p = lived();
      unchanged(p, () -> {
        for (int child : beyond(0, 1)) due("child " + child, p.forget(child, 1), false);
        for (int key : beyond(1, 5)) due("key " + key, p.forget(1, key), false);
      });
    });
  }

  private static void sunday() {
    says("SUNDAYS pass (1 .. 60): how many holes are heard in them", () -> {
      for (int n : new int[] {1, 2, 59, 60}) {
        PianolaRolls p = ruled(with(1, "12"), "wears 0;");
        due("sunday(" + n + ")", p.sunday(n), 2 * n);
        due("SUNDAY", p.is(0), n);
        due("heard", p.heard(0, 2), n);
        due("steps", p.about(4), Math.min(30, n));
      }
      due("heard beyond 99", ruled(with(1, "1111111111111111"), "wears 0;").sunday(60), 960);
    });
    says("NONE for others", () -> {
      PianolaRolls p = lived();
      unchanged(p, () -> {
        for (int n : beyond(1, 60)) due("sunday(" + n + ")", p.sunday(n), NONE);
      });
    });
    says("or beyond 9999 (nothing is done then)", () -> {
      PianolaRolls p = with(1, "1");
      passTo(p, 9960);
      unchanged(p, () -> {
        for (int n = 40; n <= 60; n++) due("sunday(" + n + ")", p.sunday(n), NONE);
      });
      due("39 can", p.sunday(39) >= 0, true);
      due("SUNDAY", p.is(0), 9999);
      unchanged(p, () -> due("sunday(1)", p.sunday(1), NONE));
    });
  }

  private static void played() {
    says("PLAYED by a TEXT: NONE: all is done", () -> {
      PianolaRolls p = with("1");
      String[] texts = {"", "wears 1;", "child;play 0 to 0;", times(24, "sunday 60;")};
      for (int i = 0; i < 4; i++) {
        read(p, texts[i]);
        due("played(" + i + ")", p.played(i), NONE);
      }
      due("SUNDAY", p.is(0), 24 * 60);
      due("children", p.is(3), 1);
    });
    says("else the number of the CLAUSE that can't be", () -> {
      PianolaRolls p = with(1, "1");
      read(p, "patch 0 of 0;");
      due("the first", p.played(0), 0);
      read(p, times(23, "sunday 1;") + "play 1 to 0;");
      due("the last of 24", p.played(1), 23);
      due("SUNDAY", p.is(0), 23);
      read(p, "play 0 to 0;patch 0 of 0;patch 0 of 0;");
      due("the second patching", p.played(2), 2);
    });
    says("-2 for others", () -> {
      PianolaRolls p = lived();
      read(p, "child;");
      unchanged(p, () -> {
        for (int text : beyond(0, 1)) due("played(" + text + ")", p.played(text), -2);
      });
      due("without texts", new PianolaRolls().played(0), -2);
    });
  }

  private static void years() {
    says("YEARS: SUNDAY", () -> {
      PianolaRolls p = new PianolaRolls();
      int sundays = 0;
      int x = 269;
      for (int i = 0; i < 40; i++) {
        if (x % 6 > 3) sundays++;
        x = nextX(x);
      }
      due("years(0, 40)", p.years(0, 40), sundays);
      due("SUNDAY", p.is(0), sundays);
      due("years(9999, 1)", p.years(9999, 1), sundays + (20267 % 6 > 3 ? 1 : 0));
    });
    says("NONE for others", () -> {
      PianolaRolls p = lived();
      unchanged(p, () -> {
        for (int seed : beyond(0, 9999)) due("seed " + seed, p.years(seed, 1), NONE);
        for (int n : beyond(1, 40)) due("n " + n, p.years(0, n), NONE);
      });
    });
  }

  private static void undo() {
    says("The latest STEP is taken back: how many can be yet", () -> {
      PianolaRolls p = with(1, "1");
      String at0 = state(p);
      p.play(0, 0);
      String at1 = state(p);
      p.patch(0, 0);
      due("undo()", p.undo(), 1);
      due("the latest", state(p), at1);
      due("undo()", p.undo(), 0);
      due("the first", state(p), at0);
      p.sunday(30);
      p.sunday(1);
      for (int i = 29; i >= 0; i--) due("undo()", p.undo(), i);
      due("SUNDAY", p.is(0), 1);
      for (int i = 1; i <= 45; i++) {
        // Back and forth around the end of what can be taken back.
        p.sunday(3);
        due("undo()", p.undo(), Math.min(30, 2 * (i - 1) + 3) - 1);
      }
    });
    says("NONE: there is none", () -> {
      PianolaRolls p = with(1, "1");
      unchanged(p, () -> due("undo()", p.undo(), NONE));
      p.play(0, 0);
      p.undo();
      unchanged(p, () -> due("undo()", p.undo(), NONE));
      p.sunday(40);
      for (int i = 0; i < 30; i++) p.undo();
      unchanged(p, () -> due("undo()", p.undo(), NONE));
    });
  }
}
