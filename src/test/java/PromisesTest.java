/** Each promise by hand: ordinary inputs, the edges that the document names, and wrong inputs. */
public final class PromisesTest extends Bench {
  public static void main(String[] args) {
    Runnable[] all = {
      PromisesTest::newObject, PromisesTest::roll, PromisesTest::hole, PromisesTest::worn, PromisesTest::child,
      PromisesTest::feed, PromisesTest::end, PromisesTest::text, PromisesTest::fault, PromisesTest::by,
      PromisesTest::play, PromisesTest::patch, PromisesTest::forget, PromisesTest::sunday, PromisesTest::played,
      PromisesTest::years, PromisesTest::undo, PromisesTest::of, PromisesTest::heard, PromisesTest::ofRoll,
      PromisesTest::at, PromisesTest::law, PromisesTest::is, PromisesTest::book, PromisesTest::foretold,
      PromisesTest::edit, PromisesTest::common, PromisesTest::phrase, PromisesTest::fits, PromisesTest::nearest,
      PromisesTest::motif, PromisesTest::mirror, PromisesTest::clash, PromisesTest::together, PromisesTest::stair,
      PromisesTest::fills, PromisesTest::teaches, PromisesTest::likely, PromisesTest::parts, PromisesTest::alike,
      PromisesTest::said, PromisesTest::whose, PromisesTest::best, PromisesTest::loved, PromisesTest::dumb,
      PromisesTest::ledger, PromisesTest::image, PromisesTest::back, PromisesTest::about};
    for (int i = 0; i < all.length; i++) {
      heading("promise " + (i + 1));
      all[i].run();
    }
    finish(all.length + " promises");
  }

  private static void newObject() {
    PianolaRolls p = new PianolaRolls();
    int[] about = {0, 0, 0, NONE, 0, 0, 0, 0};
    for (int what = 0; what < 8; what++) due("about(" + what + ")", p.about(what), about[what]);
    due("is(0)", p.is(0), 0);
    due("is(1)", p.is(1), 269);
    due("book(NONE, 0)", p.book(NONE, 0), 0);
    due("NONE", PianolaRolls.NONE, -1);
    p.roll(3);
    p.child();
    due("back()", p.back(), 0);
    due("rolls behind back()", p.is(2), 0);
    due("children behind back()", p.is(3), 0);
  }

  private static void roll() {
    PianolaRolls p = new PianolaRolls();
    due("roll(0)", p.roll(0), NONE);
    due("roll(17)", p.roll(17), NONE);
    due("roll(-1)", p.roll(-1), NONE);
    int[] sizes = {1, 16, 3, 4, 5};
    for (int i = 0; i < 5; i++) due("roll " + i, p.roll(sizes[i]), i);
    due("the sixth", p.roll(2), NONE);
    due("places", p.ofRoll(1, 0), 16);
    due("at first silent", p.at(1, 15, 0), 0);
    due("at first not worn", p.at(1, 15, 1), 0);
  }

  private static void hole() {
    PianolaRolls p = with("000");
    due("hole(0, 2, 5)", p.hole(0, 2, 5), true);
    due("its key", p.at(0, 2, 0), 5);
    due("hole(0, 2, 0)", p.hole(0, 2, 0), true);
    due("none any more", p.at(0, 2, 0), 0);
    due("key 6", p.hole(0, 0, 6), false);
    due("key -1", p.hole(0, 0, -1), false);
    due("place 3", p.hole(0, 3, 1), false);
    due("place -1", p.hole(0, -1, 1), false);
    due("roll 1", p.hole(1, 0, 1), false);
    due("roll -1", p.hole(-1, 0, 1), false);
    due("holes", p.ofRoll(0, 1), 0);
    due("steps", p.about(4), 0);
  }

  private static void worn() {
    PianolaRolls p = with("123");
    due("worn(0, 0, 9)", p.worn(0, 0, 9), true);
    due("worn(0, 1, 0)", p.worn(0, 1, 0), true);
    due("wear", p.at(0, 0, 1), 9);
    due("wear 10", p.worn(0, 0, 10), false);
    due("wear -1", p.worn(0, 0, -1), false);
    due("place 3", p.worn(0, 3, 1), false);
    due("roll 1", p.worn(1, 0, 1), false);
    due("steps", p.about(4), 0);
    due("torn", p.ofRoll(0, 2), 1);
  }

  private static void child() {
    PianolaRolls p = new PianolaRolls();
    for (int i = 0; i < 4; i++) due("child " + i, p.child(), i);
    due("the fifth", p.child(), NONE);
    due("heard at first", p.heard(3, 5), 0);
  }

  private static void feed() {
    PianolaRolls p = new PianolaRolls();
    // 'chil' 'd;  ' and blanks: the highest byte comes first.
    due("feed", p.feed(0x6368696c, 0x643b2020, 0x20202020, 0x0a0a0a0a, 0x20202020), 20);
    due("text", p.text(), 0);
    for (int i = 1; i <= 15; i++) due("feed " + i, p.feed(0, 0, 0, 0, -1), 20 * i);
    due("beyond 300", p.feed(0, 0, 0, 0, 0), NONE);
    due("none came", p.about(7), 300);
    due("end(281)", p.end(281), 281);
    due("301 would be too many", p.feed(0, 0, 0, 0, 0), NONE);
    due("end(280)", p.end(280), 280);
    due("300 are not", p.feed(0, 0, 0, 0, 0), 300);
  }

  private static void end() {
    PianolaRolls p = new PianolaRolls();
    due("end(0)", p.end(0), 0);
    due("end(1) of none", p.end(1), NONE);
    p.feed(0x6368696c, 0x643b3f3f, 0, 0, 0);
    due("end(-1)", p.end(-1), NONE);
    due("end(21)", p.end(21), NONE);
    due("nothing is done", p.about(7), 20);
    due("end(20)", p.end(20), 20);
    due("end(6)", p.end(6), 6);
    due("bytes", p.about(7), 6);
    due("the first ones stay", p.text(), 0);
  }

  private static void text() {
    PianolaRolls p = new PianolaRolls();
    due("the empty one", p.text(), 0);
    p.feed(0x3f000000, 0, 0, 0, 0);
    due("a fault", p.text(), NONE);
    due("the tape is empty then", p.about(7), 0);
    due("texts", p.about(2), 1);
    for (int i = 1; i < 4; i++) due("text " + i, read(p, "child;"), i);
    p.feed(0x3f000000, 0, 0, 0, 0);
    due("a fifth", p.text(), NONE);
    due("the tape stays", p.about(7), 20);
    due("it wasn't read", p.fault(0), 0);
    due("texts", p.about(2), 4);
  }

  private static void fault() {
    PianolaRolls p = new PianolaRolls();
    for (int what = 0; what < 3; what++) due("ahead of any, " + what, p.fault(what), NONE);
    read(p, "roll 1,;");
    due("fault(0)", p.fault(0), 1);
    due("fault(1)", p.fault(1), 7);
    due("fault(2)", p.fault(2), NONE);
    due("fault(-1)", p.fault(-1), NONE);
    read(p, "roll 1;");
    due("without", p.fault(0), 0);
    due("its place", p.fault(1), NONE);
    tokensAndClauses();
    numbers();
    nesting();
    names();
    tooMany();
  }

  private static void tokensAndClauses() {
    fine("");
    fine(" \n child\n;\n\n ");
    fine("roll1,2;play0to0;patch 0of 0;forget1by0;sunday60;");
    fine("blurs 0;learns 0;wears 0;");
    fine("wears if 1<=2 or not 1>=2 and 1#1 then 1 else 2 end;");
    faulty("Child;", 1, 0);
    faulty("child ", 1, 6);
    faulty("child", 1, 5);
    faulty("child;;", 1, 6);
    faulty("child\t;", 1, 5);
    faulty("child" + (char) 233 + ";", 1, 5);
    faulty("childx;", 1, 0);
    faulty("childz;", 1, 0);
    faulty("childA;", 1, 0);
    faulty("childZ;", 1, 0);
    for (char sign = 0; sign < 256; sign++) {
      boolean stands = sign == 32 || sign == 10;
      if (stands) fine(sign + "child;");
      else faulty(sign + " child;", 1, 0);
    }
    faulty("end;", 1, 0);
    faulty("7;", 1, 0);
    faulty("roll;", 1, 4);
    faulty("roll 1 2;", 1, 7);
    faulty("play 0 of 0;", 1, 7);
    faulty("patch 0 to 0;", 1, 8);
    faulty("forget 1 of 0;", 1, 9);
    faulty("sunday key;", 1, 7);
    faulty("sunday -1;", 1, 7);
    faulty("wears;", 1, 5);
    faulty("wears foo;", 1, 6);
    faulty("wears 1+;", 1, 8);
    faulty("wears 1**2;", 1, 8);
    faulty("wears +1;", 1, 6);
    faulty("wears (1;", 1, 8);
    faulty("wears 1);", 1, 7);
    faulty("wears child;", 1, 6);
    faulty("wears if 1=<2 then 1 else 2 end;", 1, 11);
    faulty("wears if 1< =2 then 1 else 2 end;", 1, 12);
    faulty("wears if 1<2<3 then 1 else 2 end;", 1, 12);
    faulty("wears if (1<2) then 1 else 2 end;", 1, 11);
    faulty("wears if 1<2 then 1 end;", 1, 20);
    faulty("wears if 1<2 then 1 else 2;", 1, 26);
    faulty("wears if 1<2 then 1 else 2 end", 1, 30);
    faulty("wears not 1;", 1, 6);
    faulty("wears ?", 1, 6);
  }

  private static void numbers() {
    fine("wears 9999;");
    fine("wears 000000000000000000001;");
    faulty("wears 10000;", 2, 6);
    faulty("wears 99999999999999999999999999;", 2, 6);
    faulty("child 10000;", 1, 6);
    faulty("roll 0,6;", 2, 7);
    fine("play 4 to 3;patch 15 of 4;forget 5 by 3;sunday 1;");
    faulty("play 5 to 0;", 2, 5);
    faulty("play 4 to 4;", 2, 10);
    faulty("patch 16 of 0;", 2, 6);
    faulty("patch 15 of 5;", 2, 12);
    faulty("forget 0 by 0;", 2, 7);
    faulty("forget 6 by 0;", 2, 7);
    faulty("forget 5 by 4;", 2, 12);
    faulty("sunday 0;", 2, 7);
    faulty("sunday 61;", 2, 7);
  }

  private static void nesting() {
    fine("wears ((((((((1))))))));");
    faulty("wears (((((((((1", 3, 14);
    fine("wears --------1;");
    faulty("wears ---------1;", 3, 14);
    // The sign between two ones is no part of it, and what is closed isn't open.
    fine("wears ((((((((1-1-1))))))))-((((((((1))))))));");
    faulty("wears (-digits holes if not not not (1", 3, 36);
    fine("wears (-digits holes if not not not 1=1 then 1 else 2 end);");
    fine("wears if not not not not not not not 1=1 then (((((((1))))))) else 2 end;");
    faulty("wears if 1=1 then 1 else ((((((((1)))))))) end;", 3, 32);
  }

  private static void names() {
    fine("blurs sunday+key+who+heard+roll+place+wear;");
    fine("learns sunday+key+who+heard;");
    fine("wears sunday+key+roll+place+wear;");
    String[] learnsNot = {"roll", "place", "wear"};
    for (String name : learnsNot) faulty("learns 1+" + name + ";", 5, 9);
    faulty("wears who;", 5, 6);
    faulty("wears heard;", 5, 6);
    // A name that can't stand there is that first.
    faulty("learns 1 roll;", 1, 9);
    // It is the same wherever a one can stand.
    String[] aheads = {"1+", "1*", "(", "-", "digits ", "if ", "if 1=", "if 1=1 and ", "if 1=1 or 1<=", "if not ",
        "if 1=1 then ", "if 1=1 then 1 else ", "if 1=1 then 1*2+"};
    for (String ahead : aheads) {
      faulty("wears " + ahead + "who", 5, 6 + ahead.length());
      faulty("wears " + ahead + "10000", 2, 6 + ahead.length());
      faulty("wears " + ahead + "then", 1, 6 + ahead.length());
      faulty("wears " + ahead, 1, 6 + ahead.length());
    }
  }

  private static void tooMany() {
    faulty("wears 1;wears 2;", 4, 8);
    faulty("blurs 1;child;blurs 2;", 4, 14);
    String all = "child;child;child;child;child;child;child;child;child;child;child;child;";
    fine(all + all);
    faulty(all + all + "child;", 6, 144);
    faulty(all + all + "key", 1, 144);
    faulty("wears 1;" + all.substring(6) + all + "wears 2;", 4, 146);
    fine("roll 1,1,1,1,1,1,1,1,1,1,1,1,1,1,1,1;");
    faulty("roll 1,1,1,1,1,1,1,1,1,1,1,1,1,1,1,1,1;", 7, 37);
    faulty("roll 1,1,1,1,1,1,1,1,1,1,1,1,1,1,1,1,6;", 2, 37);
    faulty("roll 1,1,1,1,1,1,1,1,1,1,1,1,1,1,1,1,;", 1, 37);
  }

  private static void by() {
    PianolaRolls p = with("11");
    p.child();
    due("by(0) without texts", p.by(0), false);
    due("by(NONE)", p.by(NONE), true);
    read(p, "wears 4;blurs 7;");
    due("none rules yet", p.at(0, 0, 2), 1);
    due("by(0)", p.by(0), true);
    due("wears", p.at(0, 0, 2), 4);
    due("blurs", p.law(0, 0, 0, true), 7);
    due("by(1)", p.by(1), false);
    due("by(-2)", p.by(-2), false);
    due("it rules yet", p.about(3), 0);
    due("by(NONE)", p.by(NONE), true);
    due("none rules", p.at(0, 0, 2), 1);
  }

  private static void play() {
    // The draws from X 269 on: 9, 0, 7, 7, 0, 7, 4, 6.
    PianolaRolls p = with("12304");
    wear(p, 0, 2, 0, 1, 2, 3, 4);
    due("without a child", p.play(0, 0), NONE);
    p.child();
    due("blurred by 1 of 10", p.play(0, 0), 3);
    due("key 1", p.heard(0, 1), 1);
    due("key 2 is blurred", p.heard(0, 2), 0);
    due("key 3", p.heard(0, 3), 1);
    due("key 4", p.heard(0, 4), 1);
    due("X", p.is(1), 9050);
    due("wear", p.at(0, 1, 1), 3);
    due("a silent place isn't worn by it", p.at(0, 3, 1), 2);
    due("written down", p.book(0, 3), 3);
    due("roll 1", p.play(1, 0), NONE);
    due("roll -1", p.play(-1, 0), NONE);
    due("child 1", p.play(0, 1), NONE);
    due("child -1", p.play(0, -1), NONE);
    due("one step", p.about(4), 1);
    PianolaRolls torn = with("11");
    torn.child();
    wear(torn, 0, 9, 0);
    wear(torn, 0, 8, 1);
    due("torn isn't heard, nor drawn for", torn.play(0, 0), 1);
    due("X", torn.is(1), 14530);
    due("9 at most", torn.at(0, 1, 1), 9);
    due("both are torn", torn.play(0, 0), 0);
    due("written down, too", torn.book(NONE, 0), 2);
    PianolaRolls often = ruled(with("1111111111111111"), "wears 0;");
    often.child();
    for (int i = 0; i < 7; i++) due("all heard", often.play(0, 0), 16);
    due("99 at most", often.heard(0, 1), 99);
  }

  private static void patch() {
    PianolaRolls p = with("10");
    due("not worn", p.patch(0, 0), false);
    wear(p, 0, 9, 0, 1);
    due("patch(0, 0)", p.patch(0, 0), true);
    due("patch(0, 1)", p.patch(0, 1), true);
    due("wear", p.at(0, 0, 1), 0);
    due("again", p.patch(0, 0), false);
    due("place 2", p.patch(0, 2), false);
    due("place -1", p.patch(0, -1), false);
    due("roll 1", p.patch(1, 0), false);
    due("steps", p.about(4), 2);
  }

  private static void forget() {
    PianolaRolls p = with("115");
    due("without a child", p.forget(0, 1), false);
    p.child();
    due("never heard", p.forget(0, 1), false);
    p.play(0, 0);
    due("forget(0, 1)", p.forget(0, 1), true);
    due("heard", p.heard(0, 1), 0);
    due("forget(0, 5)", p.forget(0, 5), true);
    due("again", p.forget(0, 5), false);
    due("key 0", p.forget(0, 0), false);
    due("key 6", p.forget(0, 6), false);
    due("child 1", p.forget(1, 1), false);
    due("steps", p.about(4), 3);
  }

  private static void sunday() {
    PianolaRolls p = with("1", "22");
    due("without children", p.sunday(2), 0);
    due("SUNDAY", p.is(0), 2);
    due("no draw", p.is(1), 269);
    PianolaRolls alone = new PianolaRolls();
    alone.child();
    due("without rolls", alone.sunday(1), 0);
    due("no draw", alone.is(1), 269);
    due("nothing is written down", alone.book(NONE, 0), 0);
    p.child();
    p.child();
    // 269 is odd: roll 1; 14530 is even: child 0; then two draws by 10.
    due("sunday(1)", p.sunday(1), 2);
    due("X", p.is(1), 9050);
    due("heard", p.heard(0, 2), 2);
    due("SUNDAY written down", p.book(0, 0), 2);
    due("ROLL", p.book(0, 1), 1);
    due("CHILD", p.book(0, 2), 0);
    due("sunday(0)", p.sunday(0), NONE);
    due("sunday(61)", p.sunday(61), NONE);
    due("sunday(-1)", p.sunday(-1), NONE);
    due("SUNDAY", p.is(0), 3);
    due("each is a step", p.about(4), 3);
    passTo(p, 9990);
    int x = p.is(1);
    due("beyond 9999", p.sunday(10), NONE);
    due("nothing is done", p.is(1), x);
    due("nor passes", p.is(0), 9990);
    due("up to it", p.sunday(9) != NONE, true);
    due("SUNDAY", p.is(0), 9999);
    due("none can pass", p.sunday(1), NONE);
  }

  private static void played() {
    PianolaRolls p = new PianolaRolls();
    due("played(0)", p.played(0), -2);
    read(p, "wears 3;child;roll 0,1,5;play 0 to 0;patch 1 of 0;forget 5 by 0;sunday 2;");
    due("played(-1)", p.played(-1), -2);
    due("played(1)", p.played(1), -2);
    due("all is done", p.played(0), NONE);
    due("keys", p.at(0, 2, 0), 5);
    due("it doesn't rule", p.at(0, 2, 1) <= 3, true);
    due("SUNDAY", p.is(0), 2);
    due("steps", p.about(4), 5);
    due("key 5", p.heard(0, 5), 2);
    read(p, "child;patch 0 of 0;child;");
    due("a place that isn't worn", p.played(1), 1);
    due("what was done stays", p.is(3), 2);
    read(p, "learns 1;roll 1;roll 1;roll 1;roll 1;roll 1;");
    due("the sixth roll", p.played(2), 5);
    due("ROLLS", p.is(2), 5);
    read(p, "child;child;child;");
    due("the fifth child", p.played(3), 2);
    PianolaRolls q = new PianolaRolls();
    read(q, "play 0 to 0;");
    due("nothing to play", q.played(0), 0);
    read(q, "roll 1;forget 1 by 0;");
    due("nobody to forget", q.played(1), 1);
    read(q, "child;sunday 5;child;");
    passTo(q, 9997);
    due("not all can pass", q.played(2), 1);
    due("those that can do", q.is(0), 9999);
    due("no more is done", q.is(3), 1);
  }

  private static void years() {
    PianolaRolls p = new PianolaRolls();
    int[][] others = {{-1, 1}, {10000, 1}, {0, 0}, {0, 41}, {0, -1}};
    for (int[] o : others) due("years(" + o[0] + ", " + o[1] + ")", p.years(o[0], o[1]), NONE);
    due("no step", p.about(4), 0);
    // 269 mod 6 is 5 and 14530 mod 6 is 4, both Sundays; 28887 mod 6 is 3; 17 mod 6 is 5.
    due("years(0, 4) of nothing", p.years(0, 4), 3);
    due("X", p.is(1), 9050);
    due("one step", p.about(4), 1);
    due("years(9999, 40)", p.years(9999, 40) > 3, true);
    // SEED 2 is X 273, 273 mod 6 is 3: KEY 1 and 273 mod 5 is 4.
    PianolaRolls q = with("4");
    q.child();
    q.play(0, 0);
    due("years(2, 1)", q.years(2, 1), 0);
    due("forgotten", q.heard(0, 4), 0);
    // SEED 1 is X 271, 271 mod 6 is 1.
    due("years(1, 1)", q.years(1, 1), 0);
    due("played", q.heard(0, 4), 1);
    due("steps", q.about(4), 3);
    PianolaRolls rolls = with("4");
    due("without a child", rolls.years(1, 1), 0);
    due("nothing is played", rolls.book(NONE, 0), 0);
    PianolaRolls children = new PianolaRolls();
    children.child();
    due("without a roll", children.years(1, 1), 0);
    due("nothing is played", children.book(NONE, 0), 0);
    patchedByYears();
    PianolaRolls last = with("1");
    last.child();
    passTo(last, 9999);
    int x = 269;
    for (int i = 0; i < 2; i++) x = (x * 509 + 397) % 30697;
    due("no Sunday can pass", last.years(0, 2), 9999);
    due("nor draws", last.is(1), x);
  }

  /** The first X is odd, and so patches nothing: a seed is sought whose second X does. */
  private static void patchedByYears() {
    for (int seed = 0; seed < 200; seed++) {
      int next = ((seed * 2 + 269) * 509 + 397) % 30697;
      if ((seed * 2 + 269) % 6 != 3 || next % 6 != 2) continue;
      PianolaRolls p = with("0000000000000000");
      for (int at = 0; at < 16; at++) p.worn(0, at, 1);
      due("years(" + seed + ", 2)", p.years(seed, 2), 0);
      for (int at = 0; at < 16; at++) due("place " + at + " by seed " + seed, p.at(0, at, 1), at == next / 6 % 16 ? 0 : 1);
      return;
    }
    due("a seed that patches", 0, 1);
  }

  private static void undo() {
    PianolaRolls p = with("12");
    p.child();
    due("none yet", p.undo(), NONE);
    p.play(0, 0);
    p.patch(0, 0);
    p.forget(0, 2);
    p.sunday(2);
    p.years(5, 3);
    due("steps", p.about(4), 6);
    due("years back", p.undo(), 5);
    due("SUNDAY", p.is(0), 2);
    due("a Sunday back", p.undo(), 4);
    due("SUNDAY", p.is(0), 1);
    due("a Sunday back", p.undo(), 3);
    due("forgotten ahead", p.heard(0, 2), 0);
    due("remembered", p.undo(), 2);
    due("heard", p.heard(0, 2), 1);
    due("worn again", p.undo(), 1);
    due("wear", p.at(0, 0, 1), 1);
    due("not played", p.undo(), 0);
    due("wear", p.at(0, 0, 1), 0);
    due("heard", p.heard(0, 1), 0);
    due("X", p.is(1), 269);
    due("BOOK", p.book(NONE, 0), 0);
    due("none is left", p.undo(), NONE);
    for (int i = 0; i < 33; i++) p.play(0, 0);
    due("the latest 30", p.about(4), 30);
    for (int i = 29; i >= 0; i--) due("back", p.undo(), i);
    due("no further", p.undo(), NONE);
    due("three stay", p.book(NONE, 0), 3);
    undoLeavesWhatIsTold();
    PianolaRolls q = with("1");
    q.child();
    for (int i = 0; i < 30; i++) {
      q.play(0, 0);
      q.sunday(1);
    }
    int eldest = q.book(0, 0);
    q.sunday(1);
    q.undo();
    due("the eldest page is back", q.book(0, 0), eldest);
    due("pages", q.book(NONE, 0), 30);
  }

  private static void undoLeavesWhatIsTold() {
    PianolaRolls p = with("111");
    p.child();
    p.play(0, 0);
    p.worn(0, 1, 5);
    p.play(0, 0);
    p.hole(0, 2, 4);
    p.roll(1);
    p.child();
    due("wear", p.at(0, 1, 1), 6);
    due("undo", p.undo(), 1);
    due("told wear", p.at(0, 1, 1), 5);
    due("not told", p.at(0, 0, 1), 1);
    due("undo", p.undo(), 0);
    due("told wear", p.at(0, 1, 1), 5);
    due("not told", p.at(0, 0, 1), 0);
    p.patch(0, 1);
    p.worn(0, 0, 3);
    due("undo", p.undo(), 0);
    due("told wear of the first place", p.at(0, 0, 1), 3);
    due("patched no more", p.at(0, 1, 1), 5);
    due("holes stay", p.at(0, 2, 0), 4);
    due("rolls stay", p.is(2), 2);
    due("children stay", p.is(3), 2);
  }

  private static void of() {
    PianolaRolls p = with("3311");
    due("without a child", p.of(0, 0), NONE);
    p.child();
    due("heard most: none", p.of(0, 2), NONE);
    due("learnt: none", p.of(0, 0), 0);
    p.play(0, 0);
    due("heard", p.of(0, 1), 4);
    due("of like ones the lowest", p.of(0, 2), 1);
    due("2 are too few", p.of(0, 0), 0);
    p.forget(0, 1);
    due("heard most", p.of(0, 2), 3);
    ruled(p, "learns 2;");
    due("by the law", p.of(0, 0), 8);
    ruled(p, "learns 0;");
    due("once at least", p.of(0, 0), 8);
    ruled(p, "learns heard+1;");
    due("never", p.of(0, 0), 0);
    due("what 3", p.of(0, 3), NONE);
    due("what -1", p.of(0, -1), NONE);
    due("child 1", p.of(1, 0), NONE);
    due("child -1", p.of(-1, 0), NONE);
  }

  private static void heard() {
    PianolaRolls p = with("525");
    p.child();
    p.play(0, 0);
    due("heard(0, 5)", p.heard(0, 5), 2);
    due("heard(0, 2)", p.heard(0, 2), 1);
    due("heard(0, 1)", p.heard(0, 1), 0);
    due("key 0", p.heard(0, 0), NONE);
    due("key 6", p.heard(0, 6), NONE);
    due("child 1", p.heard(1, 1), NONE);
    due("child -1", p.heard(-1, 1), NONE);
  }

  private static void ofRoll() {
    PianolaRolls p = with("1051", "00");
    wear(p, 0, 9, 1);
    int[] of = {4, 3, 2, 34, 9};
    for (int what = 0; what < 5; what++) due("ofRoll(0, " + what + ")", p.ofRoll(0, what), of[what]);
    due("a roll that never tears", p.ofRoll(1, 4), 99);
    due("what 5", p.ofRoll(0, 5), NONE);
    due("what -1", p.ofRoll(0, -1), NONE);
    due("roll 2", p.ofRoll(2, 0), NONE);
    due("roll -1", p.ofRoll(-1, 0), NONE);
    wear(p, 0, 7, 2);
    due("the most worn one first", p.ofRoll(0, 4), 2);
    ruled(p, "wears 9-wear;");
    due("by wears", p.ofRoll(0, 4), 1);
    ruled(p, "wears if wear<7 then 1 else 0 end;");
    due("never", p.ofRoll(0, 4), 99);
    wear(p, 0, 9, 3);
    due("torn already", p.ofRoll(0, 4), 0);
    ruled(p, "wears key*place+sunday;");
    due("behind none", p.ofRoll(0, 4), 0);
  }

  private static void at() {
    PianolaRolls p = with("1203");
    wear(p, 0, 9, 3);
    wear(p, 0, 4, 1);
    due("KEY", p.at(0, 1, 0), 2);
    due("WEAR", p.at(0, 1, 1), 4);
    due("wears", p.at(0, 1, 2), 1);
    ruled(p, "wears roll*1000+place*3-key+wear;");
    due("wears", p.at(0, 1, 2), 5);
    due("of a silent one", p.at(0, 2, 2), 6);
    due("9 at most", p.at(0, 3, 2), 9);
    due("0 at least", p.at(0, 0, 2), 0);
    due("what 3", p.at(0, 1, 3), NONE);
    due("what -1", p.at(0, 1, -1), NONE);
    due("place 4", p.at(0, 4, 0), NONE);
    due("place -1", p.at(0, -1, 0), NONE);
    due("roll 1", p.at(1, 0, 0), NONE);
  }

  private static void law() {
    PianolaRolls p = with("10");
    due("without a child", p.law(0, 0, 0, true), NONE);
    p.child();
    for (int wear = 0; wear <= 9; wear++) {
      p.worn(0, 0, wear);
      due("blurs by wear " + wear, p.law(0, 0, 0, true), wear / 2);
    }
    due("learns", p.law(0, 0, 0, false), 3);
    due("of a silent one", p.law(0, 1, 0, false), 3);
    due("place 2", p.law(0, 2, 0, true), NONE);
    due("roll 1", p.law(1, 0, 0, true), NONE);
    due("child 1", p.law(0, 0, 1, true), NONE);
    ruled(p, "blurs wear+5;learns 100;");
    due("10 at most", p.law(0, 0, 0, true), 10);
    due("99 at most", p.law(0, 0, 0, false), 99);
    ruled(p, "blurs -1;learns -1;");
    due("0 at least", p.law(0, 0, 0, true), 0);
    due("0 at least", p.law(0, 0, 0, false), 0);
    PianolaRolls names = with("1", "0055");
    names.child();
    names.child();
    names.sunday(1);
    names.worn(1, 3, 2);
    ruled(names, "blurs if roll=1 and place=3 and wear=2 and key=5 and who=1 and heard=0 and sunday=1 then 7 else 2 end;");
    due("all names", names.law(1, 3, 1, true), 7);
    due("of another child", names.law(1, 3, 0, true), 2);
    sums();
  }

  private static void sums() {
    worth("7", 7);
    worth("key*10+who", 21);
    worth("heard+sunday", 1);
    worth("2+3*4", 14);
    worth("(2+3)*4", 20);
    worth("20-5-3", 12);
    worth("100/7/2", 7);
    worth("7/2*2", 6);
    worth("10+-7/2", 7);
    worth("5/0", 0);
    worth("5+3/(2-2)", 5);
    worth("--3", 3);
    worth("-2*-3", 6);
    worth("digits 9999", 36);
    worth("digits(0-458)", 17);
    worth("digits -12+1", 4);
    worth("digits digits 9999", 9);
    worth("digits 0", 0);
    worth("holes 1", 4);
    worth("holes 0", 1);
    worth("holes 2+holes 9999+holes(-1)", 0);
    worth("holes who*2", 8);
    // Above 1000000 is that, at each step.
    worth("9999*9999/1000/20", 50);
    worth("(9999*9999+9999*9999)/1000/100", 10);
    worth("60+(0-9999*9999-9999*9999)/1000/20", 10);
    worth("9999*9999*9999/9999/10", 10);
    worth("digits(9999*9999)", 1);
    worth("if 1<1 then 1 else 2 end", 2);
    worth("if 1<=1 then 1 else 2 end", 1);
    worth("if 1>1 then 1 else 2 end", 2);
    worth("if 1>=1 then 1 else 2 end", 1);
    worth("if 1=1 then 1 else 2 end", 1);
    worth("if 1<2 then 1 else 2 end", 1);
    worth("if 1<=2 then 1 else 2 end", 1);
    worth("if 1>2 then 1 else 2 end", 2);
    worth("if 1>=2 then 1 else 2 end", 2);
    worth("if 2<=1 then 1 else 2 end", 2);
    worth("if 2>=1 then 1 else 2 end", 1);
    worth("if 2#1 then 1 else 2 end", 1);
    worth("if 2=1 then 1 else 2 end", 2);
    worth("if 1#1 then 1 else 2 end", 2);
    worth("if not 1=1 then 1 else 2 end", 2);
    worth("if not not 1=1 then 1 else 2 end", 1);
    worth("if 1=1 or 1=2 and 1=2 then 1 else 2 end", 1);
    worth("if 1=2 and 1=2 or 1=1 then 1 else 2 end", 1);
    worth("if not 1=2 and 1=2 then 1 else 2 end", 2);
    worth("5*if 1=2 then 1 else if 2=2 then 3 else 4 end end+1", 16);
    worth("if if 1=1 then 2 else 3 end=2 then if 1=2 then 5 else 6 end else 7 end", 6);
  }

  private static void is() {
    PianolaRolls p = with("1", "2");
    p.child();
    p.sunday(3);
    due("SUNDAY", p.is(0), 3);
    due("X", p.is(1) != 269, true);
    due("ROLLS", p.is(2), 2);
    due("CHILDREN", p.is(3), 1);
    due("is(4)", p.is(4), -2);
    due("is(-1)", p.is(-1), -2);
  }

  private static void book() {
    PianolaRolls p = with("1", "220");
    p.child();
    p.child();
    due("none", p.book(NONE, 0), 0);
    due("no first one", p.book(0, 0), -2);
    p.play(1, 0);
    passTo(p, 1);
    p.play(1, 1);
    due("how many", p.book(NONE, 0), 3);
    int[] last = {1, 1, 1, 2};
    for (int what = 0; what < 4; what++) due("book(2, " + what + ")", p.book(2, what), last[what]);
    due("the eldest", p.book(0, 0), 0);
    due("what 4", p.book(0, 4), -2);
    due("what -1", p.book(0, -1), -2);
    due("page 3", p.book(3, 0), -2);
    due("page -2", p.book(-2, 0), -2);
    for (int i = 0; i < 40; i++) p.play(0, i % 2);
    due("the latest 30", p.book(NONE, 0), 30);
    due("page 29", p.book(29, 2), 1);
    due("page 30", p.book(30, 2), -2);
    passTo(p, 9999);
    p.play(1, 1);
    due("SUNDAY 9999", p.book(29, 0), 9999);
    due("ROLL", p.book(29, 1), 1);
  }

  private static void foretold() {
    PianolaRolls p = with("123", "45");
    due("without a child", p.foretold(1, 0, 1), NONE);
    p.child();
    p.child();
    p.play(0, 0);
    int x = p.is(1);
    PianolaRolls other = with("123", "45");
    other.child();
    other.child();
    other.play(0, 0);
    other.sunday(7);
    for (int child = 0; child < 2; child++) {
      for (int key = 1; key <= 5; key++) {
        due("child " + child + ", key " + key, p.foretold(7, child, key), other.heard(child, key));
      }
    }
    other.undo();
    for (int i = 0; i < 5; i++) other.undo();
    due("behind one", p.foretold(1, 0, 4), other.heard(0, 4));
    due("behind one", p.foretold(1, 1, 1), other.heard(1, 1));
    due("nothing is changed", p.is(1), x);
    due("nor SUNDAY", p.is(0), 0);
    due("nor heard", p.of(0, 1), 3);
    due("n 0", p.foretold(0, 0, 1), NONE);
    due("n 61", p.foretold(61, 0, 1), NONE);
    due("key 0", p.foretold(1, 0, 0), NONE);
    due("key 6", p.foretold(1, 0, 6), NONE);
    due("child 2", p.foretold(1, 2, 1), NONE);
    PianolaRolls last = ruled(with("1"), "wears 0;");
    last.child();
    passTo(last, 9998);
    last.forget(0, 1);
    due("one can pass yet", last.foretold(60, 0, 1), 1);
    last.sunday(1);
    due("none can", last.foretold(60, 0, 1), 1);
  }

  private static void edit() {
    PianolaRolls p = with("1213", "210", "0", "1111111111111111", "5");
    due("edit(0, 1)", p.edit(0, 1), 2);
    due("edit(1, 0)", p.edit(1, 0), 2);
    due("edit(3, 3)", p.edit(3, 3), 0);
    due("edit(3, 4)", p.edit(3, 4), 16);
    PianolaRolls q = with("12345", "2345", "1234", "134", "51234");
    due("left out ahead", q.edit(0, 1), 1);
    due("put in ahead", q.edit(1, 0), 1);
    due("left out at the end", q.edit(0, 2), 1);
    due("put in between", q.edit(3, 2), 1);
    due("left out between", q.edit(2, 3), 1);
    due("left out and put in", q.edit(0, 4), 2);
    due("silent ones, too", p.edit(1, 2), 2);
    due("edit(2, 4)", p.edit(2, 4), 1);
    p.worn(4, 0, 9);
    due("a torn one is as any", p.edit(2, 4), 0);
    due("put in all the same", p.edit(4, 3), 15);
    due("roll 5", p.edit(0, 5), NONE);
    due("roll -1", p.edit(-1, 0), NONE);
  }

  private static void common() {
    PianolaRolls p = with("1213", "0321", "2131");
    due("how many", p.common(0, 2, NONE), 3);
    due("the first", p.common(0, 2, 0), 1);
    due("the last", p.common(0, 2, 2), 3);
    due("none such", p.common(0, 2, 3), -2);
    due("i -2", p.common(0, 2, -2), -2);
    // 21 by places 1, 2 is the only one of two.
    due("how many", p.common(0, 1, NONE), 2);
    due("by place", p.common(0, 1, 0), 1);
    due("by place", p.common(0, 1, 1), 2);
    PianolaRolls like = with("3411", "1040300");
    due("of like ones", like.common(0, 1, NONE), 1);
    due("the lowest", like.common(0, 1, 0), 0);
    PianolaRolls silent = with("000", "000");
    due("silent ones aside", silent.common(0, 1, NONE), 0);
    due("none such", silent.common(0, 1, 0), -2);
    wear(p, 0, 9, 1);
    due("torn ones aside", p.common(0, 2, NONE), 2);
    due("by place", p.common(0, 2, 0), 0);
    wear(p, 2, 9, 1, 3);
    due("of the other, too", p.common(0, 2, NONE), 1);
    due("roll 3", p.common(0, 3, NONE), -2);
    due("roll -1", p.common(-1, 0, NONE), -2);
  }

  private static void phrase() {
    PianolaRolls p = new PianolaRolls();
    for (int i = 0; i < 8; i++) due("phrase " + i, p.phrase(i % 6), i + 1);
    due("the ninth", p.phrase(1), -2);
    due("none any more", p.phrase(NONE), 0);
    due("key 6", p.phrase(6), -2);
    due("key -2", p.phrase(-2), -2);
    due("keys", p.about(5), 0);
  }

  private static void fits() {
    PianolaRolls p = with("12012", "1");
    due("the empty one from each", p.fits(0, 0), 31);
    p.phrase(1);
    p.phrase(2);
    due("fits(0, 0)", p.fits(0, 0), 9);
    due("one unlike", p.fits(0, 1), 9);
    due("two unlike", p.fits(0, 2), 15);
    due("it is longer", p.fits(1, 8), 0);
    wear(p, 0, 9, 2);
    due("torn is as any", p.fits(0, 1), 15);
    due("unlike 9", p.fits(0, 9), NONE);
    due("unlike -1", p.fits(0, -1), NONE);
    due("unlike 8", p.fits(0, 8), 15);
    due("roll 2", p.fits(2, 0), NONE);
    due("roll -1", p.fits(-1, 0), NONE);
  }

  private static void nearest() {
    PianolaRolls p = with("41213", "12");
    due("the empty one", p.nearest(0), NONE);
    p.phrase(2);
    p.phrase(3);
    due("fewest unlike: of like ones the lowest", p.nearest(0), 2);
    p.phrase(3);
    due("one alike at place 2 and two at none", p.nearest(0), 2);
    due("it is longer", p.nearest(1), NONE);
    wear(p, 0, 9, 0, 1);
    due("torn ones are as any", p.nearest(0), 0);
    due("roll 2", p.nearest(2), NONE);
    due("roll -1", p.nearest(-1), NONE);
  }

  private static void motif() {
    PianolaRolls p = with("1231230", "123", "1111", "0400", "5454");
    due("how many", p.motif(0, false), 3);
    due("the first", p.motif(0, true), 0);
    due("none", p.motif(1, false), 0);
    due("none has no place", p.motif(1, true), NONE);
    due("both may overlap", p.motif(2, false), 3);
    due("silent ones are alike, too", p.motif(3, false), 1);
    wear(p, 0, 9, 0);
    due("torn ones are in none", p.motif(0, false), 2);
    due("the first", p.motif(0, true), 1);
    wear(p, 4, 9, 0, 2);
    due("two torn ones are not alike", p.motif(4, false), 1);
    due("the first", p.motif(4, true), 1);
    due("roll 5", p.motif(5, false), -2);
    due("roll -1", p.motif(-1, true), -2);
  }

  private static void mirror() {
    PianolaRolls p = with("12312", "512215", "1");
    due("one", p.mirror(0, false), 1);
    due("the lowest", p.mirror(0, true), 0);
    due("all", p.mirror(1, false), 6);
    due("of one place", p.mirror(2, false), 1);
    wear(p, 0, 9, 3);
    due("torn ones are as any", p.mirror(0, false), 4);
    due("from 2 on", p.mirror(0, true), 1);
    due("roll 3", p.mirror(3, false), -2);
    due("roll -1", p.mirror(-1, true), -2);
  }

  private static void clash() {
    PianolaRolls p = with("12121", "1102", "0");
    due("off 0", p.clash(0, 1, 0), 2);
    due("off 1", p.clash(0, 1, 1), 1);
    due("off 2", p.clash(0, 1, 2), 1);
    due("off 16", p.clash(0, 1, 16), 0);
    due("silent ones don't", p.clash(2, 2, 0), 0);
    due("with itself", p.clash(0, 0, 2), 3);
    wear(p, 0, 9, 0);
    due("torn ones don't", p.clash(0, 1, 0), 1);
    wear(p, 1, 9, 3);
    due("of the other, too", p.clash(0, 1, 0), 0);
    due("off 17", p.clash(0, 1, 17), NONE);
    due("off -1", p.clash(0, 1, -1), NONE);
    due("roll 3", p.clash(0, 3, 0), NONE);
    due("roll -1", p.clash(-1, 0, 0), NONE);
  }

  private static void together() {
    PianolaRolls p = with("1111", "11", "2");
    due("none by 4", p.together(0, 1), 4);
    due("none by 2", p.together(1, 0), 2);
    due("of like ones the lowest", p.together(0, 2), 0);
    PianolaRolls full = with("1111111111111111");
    due("up to 16", full.together(0, 0), 16);
    due("roll 3", p.together(0, 3), NONE);
    due("roll -1", p.together(-1, 0), NONE);
  }

  private static void stair() {
    PianolaRolls p = with("123", "345", "512", "23", "0");
    due("one over the end of the other", p.stair(3, NONE), 5);
    due("first", p.stair(3, 0), 0);
    due("second", p.stair(3, 1), 1);
    due("none such", p.stair(3, 2), -2);
    due("i -2", p.stair(3, -2), -2);
    // 345, 123 is 345123, and 512 is in it already; 345, 512, 123 is as long, but behind it.
    due("of three", p.stair(7, NONE), 6);
    due("first", p.stair(7, 0), 1);
    due("second", p.stair(7, 1), 0);
    due("third", p.stair(7, 2), 2);
    due("in it already", p.stair(9, NONE), 3);
    due("first", p.stair(9, 0), 0);
    due("alone", p.stair(16, NONE), 1);
    due("alone", p.stair(16, 0), 4);
    due("all", p.stair(31, NONE), 7);
    due("none", p.stair(0, NONE), -2);
    due("bits 32", p.stair(32, NONE), -2);
    due("bits below 0", p.stair(-1, NONE), -2);
    wear(p, 1, 9, 2);
    due("one is torn", p.stair(3, NONE), -2);
    due("but not of these", p.stair(5, NONE), 4);
    due("not told", with("1").stair(2, NONE), -2);
  }

  private static void fills() {
    PianolaRolls p = with("10203");
    due("the empty one", p.fills(0), 1);
    p.phrase(1);
    p.phrase(2);
    due("not in it", p.fills(0), 0);
    wear(p, 0, 9, 1);
    due("by one", p.fills(0), 2);
    wear(p, 0, 9, 3);
    due("by two", p.fills(0), 2 * 6);
    wear(p, 0, 9, 4);
    // Not by place 1 (4 keys): 12 at places 3, 4 once.
    due("by three", p.fills(0), 2 * 36 + 4);
    wear(p, 0, 9, 0);
    p.phrase(NONE);
    due("all", p.fills(0), 1296);
    wear(p, 0, 9, 2);
    due("more than 4", p.fills(0), NONE);
    due("roll 1", p.fills(1), NONE);
    due("roll -1", p.fills(-1), NONE);
    PianolaRolls q = with("1");
    q.phrase(1);
    due("in it", q.fills(0), 1);
    q.phrase(1);
    due("too long", q.fills(0), 0);
  }

  private static void teaches() {
    PianolaRolls p = with("12", "113", "3");
    due("without a child", p.teaches(0, 2, NONE), -2);
    p.child();
    due("none needed", p.teaches(0, 0, NONE), 0);
    due("of roll 0", p.teaches(0, 0, 0), 0);
    // Key 1 three times: 2 playings, one of 0 and one of 1 have most of roll 0.
    due("in all", p.teaches(0, 2, NONE), 2);
    due("of roll 0", p.teaches(0, 2, 0), 1);
    due("of roll 1", p.teaches(0, 2, 1), 1);
    due("of roll 2", p.teaches(0, 2, 2), 0);
    due("1, 2 and 3", p.teaches(0, 14, NONE), 6);
    due("of roll 0", p.teaches(0, 14, 0), 3);
    due("of roll 1", p.teaches(0, 14, 1), 3);
    due("of roll 3", p.teaches(0, 14, 3), -2);
    due("i -2", p.teaches(0, 14, -2), -2);
    due("key 4 is in none", p.teaches(0, 16, NONE), -2);
    due("bit 0", p.teaches(0, 1, NONE), -2);
    due("bit 6", p.teaches(0, 64, NONE), -2);
    due("below 0", p.teaches(0, -2, NONE), -2);
    due("child 1", p.teaches(1, 2, NONE), -2);
    wear(p, 1, 9, 0);
    due("torn ones aside", p.teaches(0, 2, NONE), 3);
    due("of roll 0", p.teaches(0, 2, 0), 3);
    ruled(p, "learns 9;");
    due("8 times at most", p.teaches(0, 4, NONE), -2);
    ruled(p, "learns 8;");
    due("8 times", p.teaches(0, 4, NONE), 8);
    ruled(p, "learns if heard=4 then 4 else 99 end;");
    due("heard being as then", p.teaches(0, 4, NONE), 4);
    ruled(p, "learns 0;");
    due("the last text", p.about(2), 4);
    due("once at least", p.teaches(0, 4, NONE), 1);
    p.play(0, 0);
    due("heard already", p.teaches(0, 4, NONE), 0);
  }

  private static void likely() {
    PianolaRolls p = with("11201", "1111111111111111");
    due("without a child", p.likely(0, 0, 1, 0, false), NONE);
    p.child();
    due("surely", p.likely(0, 0, 1, 3, false), 1);
    due("surely", p.likely(0, 0, 1, 3, true), 1);
    due("never", p.likely(0, 0, 1, 4, false), 0);
    due("in lowest terms", p.likely(0, 0, 1, 4, true), 1);
    wear(p, 0, 2, 0);
    wear(p, 0, 8, 1);
    wear(p, 0, 9, 4);
    // 9 of 10, 6 of 10, and one torn: both 54 of 100, one at least 96 of 100.
    due("both", p.likely(0, 0, 1, 2, false), 27);
    due("both", p.likely(0, 0, 1, 2, true), 50);
    due("one", p.likely(0, 0, 1, 1, false), 24);
    due("one", p.likely(0, 0, 1, 1, true), 25);
    due("none at least", p.likely(0, 0, 1, 0, false), 1);
    due("three", p.likely(0, 0, 1, 3, false), 0);
    for (int at = 0; at < 16; at++) p.worn(1, at, 2);
    due("all 16", p.likely(1, 0, 1, 16, false), 1853020188851841L);
    due("all 16", p.likely(1, 0, 1, 16, true), 10000000000000000L);
    due("n 17", p.likely(1, 0, 1, 17, false), NONE);
    due("n -1", p.likely(1, 0, 1, -1, false), NONE);
    due("key 0", p.likely(1, 0, 0, 1, false), NONE);
    due("key 6", p.likely(1, 0, 6, 1, false), NONE);
    due("child 1", p.likely(1, 1, 1, 1, false), NONE);
    due("roll 2", p.likely(2, 0, 1, 1, false), NONE);
    ruled(p, "blurs 10-heard;");
    due("heard being as now", p.likely(0, 0, 1, 1, false), 0);
  }

  private static void parts() {
    PianolaRolls p = with("1", "1111", "12121212", "1213", "000102");
    due("1", p.parts(0), 1);
    due("1 111", p.parts(1), 2);
    due("1 2 121212", p.parts(2), 3);
    due("1 2 13", p.parts(3), 3);
    due("0 001 02", p.parts(4), 3);
    wear(p, 1, 9, 1, 2);
    due("torn or not", p.parts(1), 2);
    due("roll 5", p.parts(5), NONE);
    due("roll -1", p.parts(-1), NONE);
  }

  private static void alike() {
    PianolaRolls p = with("1234");
    due("one alone", p.alike(), NONE);
    due("none", new PianolaRolls().alike(), NONE);
    cut(p, "555");
    due("the two", p.alike(), 1);
    cut(p, "1244");
    due("0 and 2", p.alike(), 2);
    cut(p, "1224");
    due("of like ones the lowest", p.alike(), 2);
    cut(p, "1224");
    due("3 and 4", p.alike(), 34);
    wear(p, 2, 9, 2);
    due("torn is as any", p.alike(), 2);
  }

  private static void said() {
    PianolaRolls p = with("1");
    due("without a child", p.said(0, 1, 3), -2);
    p.child();
    for (int i = 1; i <= 8; i++) due("said " + i, p.said(0, 1 + i % 5, i == 8 ? 99 : 0), i);
    due("the ninth", p.said(0, 1, 3), -2);
    due("none any more", p.said(NONE, 0, 0), 0);
    due("key 0", p.said(0, 0, 3), -2);
    due("key 6", p.said(0, 6, 3), -2);
    due("learns 100", p.said(0, 1, 100), -2);
    due("learns -1", p.said(0, 1, -1), -2);
    due("child 1", p.said(1, 1, 3), -2);
    due("child -2", p.said(-2, 1, 3), -2);
    due("how many", p.about(6), 0);
  }

  private static void whose() {
    PianolaRolls p = with("2");
    p.child();
    p.child();
    due("no texts", p.whose(), 0);
    read(p, "learns key+who;");
    read(p, "wears 2;");
    read(p, "learns 3+heard;");
    due("nothing said", p.whose(), 7);
    p.said(0, 3, 3);
    due("all say so", p.whose(), 7);
    p.said(1, 2, 3);
    due("still", p.whose(), 7);
    p.said(1, 1, 2);
    due("the first alone", p.whose(), 1);
    p.said(NONE, 0, 0);
    p.said(0, 2, 4);
    due("nobody", p.whose(), 0);
    p.play(0, 0);
    due("as now", p.whose(), 4);
  }

  private static void best() {
    PianolaRolls p = ruled(with("12", "3"), "learns 1;");
    due("no child", p.best(), NONE);
    p.child();
    p.child();
    p.child();
    due("one at least", p.best(), NONE);
    p.play(1, 2);
    due("child 2", p.best(), 2);
    p.play(1, 1);
    due("of like ones the lowest", p.best(), 1);
    p.play(0, 2);
    due("most keys", p.best(), 2);
    p.by(NONE);
    due("by the law as it is", p.best(), NONE);
  }

  private static void loved() {
    PianolaRolls p = with("12", "303");
    due("none is worn", p.loved(), NONE);
    p.worn(1, 1, 3);
    due("a silent place counts", p.loved(), 1);
    p.worn(0, 1, 3);
    due("of like ones the lowest", p.loved(), 0);
    p.worn(1, 0, 1);
    due("in all", p.loved(), 1);
    due("no roll", new PianolaRolls().loved(), NONE);
  }

  private static void dumb() {
    PianolaRolls p = with("10", "00", "2", "3");
    due("dumb()", p.dumb(), 2);
    wear(p, 0, 9, 0);
    due("torn", p.dumb(), 3);
    wear(p, 2, 8, 0);
    due("not torn", p.dumb(), 3);
    p.hole(1, 0, 1);
    due("a hole", p.dumb(), 1);
  }

  private static void ledger() {
    PianolaRolls p = with("1", "2", "3");
    p.child();
    due("none", p.ledger(NONE), 0);
    p.play(0, 0);
    p.play(2, 0);
    p.play(2, 0);
    due("all", p.ledger(NONE), 3);
    due("roll 0", p.ledger(0), 1);
    due("roll 1", p.ledger(1), 0);
    due("roll 2", p.ledger(2), 2);
    due("roll 3", p.ledger(3), -2);
    due("roll -2", p.ledger(-2), -2);
    for (int i = 0; i < 30; i++) p.play(1, 0);
    due("the latest 30", p.ledger(NONE), 30);
    due("the others are gone", p.ledger(2), 0);
  }

  private static void image() {
    PianolaRolls p = with("12");
    p.child();
    p.sunday(4);
    due("image()", p.image(), 4);
    p.sunday(1);
    due("another one", p.image(), 5);
    p.sunday(1);
    due("back to it", p.back(), 5);
    due("no step", p.about(4), 5);
  }

  private static void back() {
    PianolaRolls p = with("12");
    p.child();
    p.play(0, 0);
    read(p, "wears 2;");
    p.by(0);
    p.phrase(3);
    p.said(0, 1, 3);
    p.sunday(1);
    int x = p.is(1);
    p.image();
    p.roll(4);
    p.child();
    p.hole(0, 0, 5);
    p.worn(0, 1, 9);
    p.undo();
    p.sunday(3);
    p.phrase(2);
    p.said(NONE, 0, 0);
    read(p, "wears 3;");
    p.by(1);
    read(p, "?");
    p.feed(1, 2, 3, 4, 5);
    for (int again = 0; again < 2; again++) {
      due("back()", p.back(), 1);
      int[] about = {1, 1, 1, 0, 2, 1, 1, 20};
      for (int what = 0; what < 8; what++) due("about(" + what + ")", p.about(what), about[what]);
      due("X", p.is(1), x);
      due("key", p.at(0, 0, 0), 1);
      due("wear", p.at(0, 1, 1), 3);
      due("wears", p.at(0, 1, 2), 2);
      due("pages", p.book(NONE, 0), 2);
      due("the fault stays", p.fault(0), 1);
      due("the step ahead", p.undo(), 1);
      due("wear", p.at(0, 1, 1), 1);
      due("the other step", p.undo(), 0);
      p.roll(16);
      due("a new roll is silent", p.ofRoll(1, 1), 0);
      due("and not worn", p.at(1, 0, 1), 0);
    }
    due("another text can be read", read(p, "wears 5;"), 1);
    p.by(1);
    due("it rules", p.at(0, 0, 2), 5);
    p.by(0);
    due("as does the first", p.at(0, 0, 2), 2);
  }

  private static void about() {
    PianolaRolls p = with("1", "2");
    p.child();
    read(p, "");
    read(p, "");
    p.by(1);
    p.sunday(3);
    p.phrase(0);
    p.said(0, 1, 1);
    p.said(0, 1, 1);
    p.feed(0, 0, 0, 0, 0);
    p.end(7);
    int[] about = {2, 1, 2, 1, 3, 1, 2, 7};
    for (int what = 0; what < 8; what++) due("about(" + what + ")", p.about(what), about[what]);
    due("about(8)", p.about(8), -2);
    due("about(-1)", p.about(-1), -2);
  }
}
