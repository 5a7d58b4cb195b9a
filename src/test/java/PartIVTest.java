/** Part IV of the document's terms: two on one machine, stairs, teaching, odds, parts, and who has most. */
public final class PartIVTest extends Sentences {
  private static final String SIXTEEN_ONES = "1111111111111111";

  public static void main(String[] args) {
    open("IV", between(document(), "==== IV.", "==== V."));
    clashes();
    stairs();
    teaching();
    teachingByLaw();
    likely();
    parts();
    alike();
    whose();
    most();
    close();
    finish("part IV: " + tests() + " tests");
  }

  private static void clashes() {
    says("CLASHES: two ROLLS on one machine, the second one beginning off (0 .. 16) PLACES later", () -> {
      PianolaRolls p = with(SIXTEEN_ONES, SIXTEEN_ONES, "2111", "12");
      for (int off = 0; off <= 16; off++) due("off " + off, p.clash(0, 1, off), 16 - off);
      for (int off : beyond(0, 16)) due("off " + off, p.clash(0, 1, off), NONE);
      due("the second later", p.clash(2, 3, 1), 1);
      due("not the first", p.clash(3, 2, 1), 1);
      due("off 2", p.clash(2, 3, 2), 1);
      due("off 2", p.clash(3, 2, 2), 0);
      due("beyond the end", p.clash(2, 3, 4), 0);
    });
    says("at how many PLACES both strike one KEY (holes not TORN)", () -> {
      PianolaRolls p = with("1203", "1233", "0000");
      due("three of four", p.clash(0, 1, 0), 3);
      due("silent ones don't", p.clash(2, 2, 0), 0);
      wear(p, 0, 8, 0);
      due("wear 8 is not torn", p.clash(0, 1, 0), 3);
      wear(p, 0, 9, 0);
      due("torn in the first", p.clash(0, 1, 0), 2);
      wear(p, 1, 9, 1);
      due("torn in the second", p.clash(0, 1, 0), 1);
      wear(p, 0, 9, 3);
      wear(p, 1, 9, 3);
      due("torn in both", p.clash(0, 1, 0), 0);
    });
    says("TOGETHER: the off by which that is least", () -> {
      PianolaRolls p = with(SIXTEEN_ONES, SIXTEEN_ONES, "1111", "112");
      due("by 16 alone", p.together(0, 1), 16);
      due("by 4", p.together(2, 2), 4);
      due("the shorter first", p.together(2, 0), 4);
      due("the longer first", p.together(0, 2), 16);
      due("by 2", p.together(3, 2), 2);
      due("by 4", p.together(2, 3), 4);
    });
    says("of like ones the lowest", () -> {
      PianolaRolls p = with("12", "34", "1212", "0");
      due("none clash", p.together(0, 1), 0);
      due("by 1, 3 and more", p.together(2, 2), 1);
      due("silent", p.together(3, 3), 0);
    });
  }

  private static void stairs() {
    says("A STAIR of some ROLLS (bits; one at least, none with a TORN PLACE)", () -> {
      PianolaRolls p = with("12", "23", "3");
      due("none", p.stair(0, NONE), -2);
      for (int roll = 0; roll < 3; roll++) {
        due("roll " + roll, p.stair(1 << roll, 0), roll);
        due("no second one", p.stair(1 << roll, 1), -2);
      }
      due("all", p.stair(7, NONE), 3);
      due("not told", p.stair(8, NONE), -2);
      due("not told, with others", p.stair(9, NONE), -2);
      for (int rolls : beyond(1, 7)) due("bits " + rolls, p.stair(rolls, NONE), -2);
      wear(p, 1, 8, 0);
      due("wear 8 is not torn", p.stair(7, NONE), 3);
      wear(p, 1, 9, 0);
      due("torn", p.stair(7, NONE), -2);
      due("torn, alone", p.stair(2, 0), -2);
      due("the others", p.stair(5, NONE), 3);
      PianolaRolls silent = with("10", "02");
      due("silent places are laid, too", silent.stair(3, NONE), 3);
      wear(silent, 0, 9, 1);
      due("a silent place is torn", silent.stair(1, NONE), -2);
    });
    says("the fewest KEYS of a row in which each of these is somewhere, by laying them one behind the other in some order", () -> {
      PianolaRolls p = with(SIXTEEN_ONES, "2222222222222222", "3333333333333333", "4444444444444444", "5555555555555555");
      due("80 of five", p.stair(31, NONE), 80);
      PianolaRolls q = with("34", "23", "12", "1");
      due("1 2 3 4", q.stair(7, NONE), 4);
      // 12, 34 and, over their seam, 23: as few as 12, 23, 34, and the lower order.
      int[] order = {2, 0, 1};
      for (int i = 0; i < 3; i++) due("roll " + i + " of it", q.stair(7, i), order[i]);
      due("1 2", q.stair(12, NONE), 2);
      // The second lies over 4 5, the third over 14 places that are beyond the first roll's.
      PianolaRolls far = with(SIXTEEN_ONES, "2222222222222222", "3333333333333345", "4511111111111111", "5");
      due("3 .. 4 5 1 .. 1", far.stair(13, NONE), 14 + 2 + 16);
      due("with one more, and one that is in it", far.stair(31, NONE), 14 + 2 + 16 + 16);
    });
    says("each over the end of the row as far as can be", () -> {
      PianolaRolls p = with("1212", "2123", "1111", "111112", "23");
      due("by three", p.stair(3, NONE), 5);
      due("by four", p.stair(12, NONE), 6);
      due("by all of four", p.stair(4, NONE), 4);
      due("by one", p.stair(24, NONE), 7);
      due("not by its start", with("21", "132").stair(3, NONE), 4);
    });
    says("(one that is in the row already adds nothing)", () -> {
      PianolaRolls p = with("1234", "23", "1234", "4", "1");
      due("within", p.stair(3, NONE), 4);
      due("the same", p.stair(5, NONE), 4);
      due("at the end", p.stair(9, NONE), 4);
      due("at the start", p.stair(17, NONE), 4);
      due("the longer one first", p.stair(17, 0), 0);
      due("all", p.stair(31, NONE), 4);
      // 345 and 123 make 345123, over the seam of which 512 is.
      due("over a seam", with("345", "123", "51").stair(7, NONE), 6);
    });
    says("the order of like ones with the lowest first ROLL, then the next, ..", () -> {
      PianolaRolls p = with("5", "4", "3", "2", "1");
      for (int i = 0; i < 5; i++) due("all alike, " + i, p.stair(31, i), i);
      for (int i = 0; i < 3; i++) due("of 0, 2 and 4, " + i, p.stair(21, i), 2 * i);
      due("how many", p.stair(31, NONE), 5);
      PianolaRolls q = with("1234", "23", "1234");
      for (int i = 0; i < 3; i++) due("in the row already, " + i, q.stair(7, i), i);
      PianolaRolls first = with("23", "1234");
      due("the lowest isn't the fewest", first.stair(3, 0), 1);
      due("then it", first.stair(3, 1), 0);
    });
  }

  private static void teaching() {
    says("TEACHING: the fewest times that ROLLS are to be PLAYED to a CHILD", () -> {
      PianolaRolls p = with(2, "1", "11", "111");
      due("one of roll 2", p.teaches(0, 2, NONE), 1);
      due("roll 2", p.teaches(0, 2, 2), 1);
      due("none of roll 0", p.teaches(0, 2, 0), 0);
      due("none of roll 1", p.teaches(0, 2, 1), 0);
      p.play(0, 0);
      due("heard once already", p.teaches(0, 2, NONE), 1);
      due("by roll 1 now", p.teaches(0, 2, 1), 1);
      due("the other child", p.teaches(1, 2, 2), 1);
      p.play(1, 0);
      due("learnt", p.teaches(0, 2, NONE), 0);
      due("without rolls", with(1).teaches(0, 0, NONE), 0);
      due("without rolls", with(1).teaches(0, 2, NONE), -2);
    });
    says("(each hole not TORN now being heard, none wearing)", () -> {
      PianolaRolls p = ruled(with(1, "11", "1"), "blurs 10;wears 9;");
      due("never blurred, never worn", p.teaches(0, 2, NONE), 2);
      wear(p, 0, 8, 0, 1);
      due("wear 8 is not torn", p.teaches(0, 2, 0), 2);
      wear(p, 0, 9, 0);
      due("one torn", p.teaches(0, 2, NONE), 3);
      wear(p, 0, 9, 1);
      due("both torn", p.teaches(0, 2, 1), 3);
      wear(p, 1, 9, 0);
      due("all torn", p.teaches(0, 2, NONE), -2);
    });
    says("by which it has LEARNT some KEYS (bits 1 .. 5", () -> {
      PianolaRolls p = ruled(with(1, "12", "345", "5"), "learns 1;");
      due("none", p.teaches(0, 0, NONE), 0);
      for (int key = 1; key <= 5; key++) due("key " + key, p.teaches(0, 1 << key, NONE), 1);
      due("key 5 by roll 1", p.teaches(0, 32, 1), 1);
      due("all", p.teaches(0, 62, NONE), 2);
      due("bit 0", p.teaches(0, 1, NONE), -2);
      due("bit 0 and others", p.teaches(0, 63, NONE), -2);
      due("bit 6", p.teaches(0, 64, NONE), -2);
      due("bit 6 and others", p.teaches(0, 66, NONE), -2);
      for (int keys : beyond(0, 62)) due("bits " + keys, p.teaches(0, keys, NONE), -2);
    });
  }

  private static void teachingByLaw() {
    says("by learns as now, heard being as then", () -> {
      PianolaRolls p = ruled(with(1, "1", "2"), "learns if sunday<1 then 2 else 4 end;");
      due("on Sunday 0", p.teaches(0, 2, NONE), 2);
      p.sunday(1);
      p.undo();
      due("on Sunday 0", p.teaches(0, 2, NONE), 2);
      ruled(p, "learns if heard=5 then 5 else 99 end;");
      due("heard 5 times then", p.teaches(0, 2, NONE), 5);
      ruled(p, "learns heard+1;");
      due("never", p.teaches(0, 2, NONE), -2);
      due("never, but none are asked for", p.teaches(0, 0, NONE), 0);
      ruled(p, "learns key*2;");
      due("by key 1", p.teaches(0, 2, NONE), 2);
      due("by both", p.teaches(0, 6, NONE), 6);
      PianolaRolls most = ruled(with(1, SIXTEEN_ONES, "111"), "wears 0;learns 99;");
      due("99 at most", most.teaches(0, 2, NONE), 7);
      for (int i = 0; i < 6; i++) most.play(0, 0);
      due("96 already, 99 at most", most.teaches(0, 2, 0), 1);
      PianolaRolls fives = ruled(with(1, "5555555555555555", "555"), "wears 0;learns 99;");
      due("99 of the last key", fives.teaches(0, 32, NONE), 7);
      // A key heard 99 times says nothing of the next key, heard never or once.
      PianolaRolls two = ruled(with(1, SIXTEEN_ONES, "2"), "wears 0;learns key*2-1;");
      for (int i = 0; i < 7; i++) two.play(0, 0);
      due("key 2 thrice yet", two.teaches(0, 6, NONE), 3);
      PianolaRolls zero = ruled(with(1, "1"), "learns 0;");
      due("once at least", zero.teaches(0, 2, NONE), 1);
    });
    says("8 times in all at most)", () -> {
      for (int learns = 1; learns <= 10; learns++) {
        PianolaRolls p = ruled(with(1, "1"), "learns " + learns + ";");
        due("learns " + learns, p.teaches(0, 2, NONE), learns <= 8 ? learns : -2);
        due("learns " + learns + ", roll 0", p.teaches(0, 2, 0), learns <= 8 ? learns : -2);
      }
      PianolaRolls all = ruled(with(1, "1", "2", "3", "4", "5"), "learns if key<3 then 1 else 2 end;");
      due("8 of five rolls", all.teaches(0, 62, NONE), 8);
      int[] times = {1, 1, 2, 2, 2};
      for (int roll = 0; roll < 5; roll++) due("roll " + roll, all.teaches(0, 62, roll), times[roll]);
      ruled(all, "learns if key<2 then 1 else 2 end;");
      due("9 of five rolls", all.teaches(0, 62, NONE), -2);
    });
    says("of like ones most of ROLL 0, then of 1, ..", () -> {
      PianolaRolls p = with(1, "1", "1", "12", "2");
      int[] key1 = {3, 0, 0, 0};
      int[] both = {0, 0, 3, 0};
      for (int roll = 0; roll < 4; roll++) {
        due("key 1, roll " + roll, p.teaches(0, 2, roll), key1[roll]);
        due("both keys, roll " + roll, p.teaches(0, 6, roll), both[roll]);
        due("key 2, roll " + roll, p.teaches(0, 4, roll), both[roll]);
      }
      PianolaRolls q = with(1, "3", "11", "1");
      due("two in all", q.teaches(0, 2, NONE), 2);
      due("most of roll 1", q.teaches(0, 2, 1), 2);
      due("none of roll 2", q.teaches(0, 2, 2), 0);
    });
    says("how often in all, ROLL i", () -> {
      PianolaRolls p = with(1, "1", "2");
      due("in all", p.teaches(0, 6, NONE), 6);
      due("roll 0", p.teaches(0, 6, 0), 3);
      due("roll 1", p.teaches(0, 6, 1), 3);
      due("roll 2", p.teaches(0, 6, 2), -2);
    });
  }

  private static void odds(PianolaRolls p, int key, int n, long upper, long lower) {
    due("key " + key + ", " + n + " times: upper", p.likely(0, 0, key, n, false), upper);
    due("key " + key + ", " + n + " times: lower", p.likely(0, 0, key, n, true), lower);
  }

  private static void likely() {
    says("LIKELY: that of a ROLL PLAYED now a CHILD hears a KEY n (0 .. 16) times or more", () -> {
      PianolaRolls p = with(1, SIXTEEN_ONES);
      for (int n = 0; n <= 16; n++) odds(p, 1, n, 1, 1);
      odds(p, 2, 0, 1, 1);
      odds(p, 2, 1, 0, 1);
      for (int n : beyond(0, 16)) odds(p, 1, n, NONE, NONE);
      PianolaRolls q = with(1, "10100");
      wear(q, 0, 2, 0, 2);
      odds(q, 1, 1, 99, 100);
      odds(q, 1, 2, 81, 100);
      odds(q, 1, 3, 0, 1);
      wear(q, 0, 8, 0);
      odds(q, 1, 2, 27, 50);
      wear(q, 0, 9, 0);
      odds(q, 1, 1, 9, 10);
      odds(q, 1, 2, 0, 1);
    });
    says("by blurs as now (heard being as now)", () -> {
      PianolaRolls p = ruled(with(1, "11"), "blurs heard*4;");
      odds(p, 1, 2, 1, 1);
      p.play(0, 0);
      due("heard once, then blurred by 4 of 10", p.heard(0, 1), 1);
      odds(p, 1, 2, 9, 25);
      ruled(p, "blurs sunday+place*10;");
      odds(p, 1, 1, 1, 1);
      odds(p, 1, 2, 0, 1);
      ruled(p, "blurs 10;");
      odds(p, 1, 0, 1, 1);
      odds(p, 1, 1, 0, 1);
      PianolaRolls who = ruled(with(2, "1"), "blurs who*5;");
      due("child 1", who.likely(0, 1, 1, 1, true), 2);
      due("child 0", who.likely(0, 0, 1, 1, true), 1);
    });
    says("in lowest terms", () -> {
      PianolaRolls p = with(1, SIXTEEN_ONES);
      for (int at = 0; at < 16; at++) p.worn(0, at, 2);
      odds(p, 1, 16, 1853020188851841L, 10000000000000000L);
      for (int at = 0; at < 16; at++) p.worn(0, at, 8);
      // 6 of 10 is 3 of 5.
      odds(p, 1, 16, 43046721L, 152587890625L);
      PianolaRolls half = ruled(with(1, SIXTEEN_ONES), "blurs 5;");
      odds(half, 1, 16, 1, 65536);
      odds(half, 1, 1, 65535, 65536);
      odds(half, 1, 0, 1, 1);
      PianolaRolls none = with(1, "0");
      odds(none, 1, 0, 1, 1);
      odds(none, 1, 1, 0, 1);
    });
  }

  private static void parts() {
    says("PARTS of a ROLL: from the first PLACE on, each part is the longest row that came already ahead of it", () -> {
      PianolaRolls p = with("1", "12", "1212345", "123451234512345", "0000000000000001");
      due("1", p.parts(0), 1);
      due("1 2", p.parts(1), 2);
      due("1 2 123 4 5", p.parts(2), 5);
      due("1 2 3 4 5 and the rest", p.parts(3), 6);
      due("0 000000000000001", p.parts(4), 2);
      PianolaRolls longest = with("1213123");
      // 1, 2, 13, 123: of 1, 12 that came already the longest is 12.
      due("1 2 13 123", longest.parts(0), 4);
    });
    says("(from a PLACE ahead, it may run into the part)", () -> {
      PianolaRolls p = with("11", "111", SIXTEEN_ONES, "1212121212121212", "1213121312131213");
      due("1 1", p.parts(0), 2);
      due("1 11", p.parts(1), 2);
      due("1 and 15", p.parts(2), 2);
      due("1 2 and 14", p.parts(3), 3);
      due("1 2 13 and 12", p.parts(4), 4);
    });
    says("and one PLACE more (or the end)", () -> {
      PianolaRolls p = with("112", "1121", "11212", "112123", "0");
      due("1 12", p.parts(0), 2);
      due("1 12 1", p.parts(1), 3);
      due("1 12 12", p.parts(2), 3);
      due("1 12 123", p.parts(3), 3);
      due("0", p.parts(4), 1);
    });
    says("how many parts (KEYS as told, TORN or not)", () -> {
      PianolaRolls p = with("1111", "1234");
      wear(p, 0, 9, 0, 2);
      wear(p, 1, 9, 0, 1, 2, 3);
      due("1 111", p.parts(0), 2);
      due("1 2 3 4", p.parts(1), 4);
    });
  }

  private static void alike() {
    says("ALIKE: the two ROLLS with the fewest CHANGES", () -> {
      PianolaRolls p = with("123", "555", "444");
      cut(p, "124");
      due("0 and 3", p.alike(), 3);
      cut(p, "444");
      due("2 and 4", p.alike(), 24);
      PianolaRolls far = with(SIXTEEN_ONES, "2");
      due("16 changes", far.alike(), 1);
      far.worn(1, 0, 9);
      cut(far, "31");
      due("a torn one is as any: 1 and 2", far.alike(), 12);
      due("two alone", with("1", "2").alike(), 1);
      due("one alone", with("1").alike(), NONE);
      due("none", new PianolaRolls().alike(), NONE);
    });
    says("of like ones the lowest, then the other one", () -> {
      PianolaRolls p = with("1", "1", "1", "1", "1");
      due("0 and 1", p.alike(), 1);
      p.hole(1, 0, 2);
      due("0 and 2", p.alike(), 2);
      p.hole(0, 0, 3);
      due("2 and 3", p.alike(), 23);
      p.hole(2, 0, 4);
      due("3 and 4", p.alike(), 34);
      p.hole(3, 0, 5);
      due("all unlike", p.alike(), 1);
    });
  }

  private static void whose() {
    says("WHOSE LAW (told: SAID, 8 at most: a CHILD, a KEY 1 .. 5, learns 0 .. 99)", () -> {
      PianolaRolls p = with(4);
      for (int i = 1; i <= 8; i++) due("said " + i, p.said(i % 4, 1 + i % 5, i == 8 ? 99 : i == 7 ? 0 : i), i);
      due("a ninth", p.said(0, 1, 1), -2);
      due("8 yet", p.about(6), 8);
      due("none any more", p.said(NONE, 1, 1), 0);
      for (int child : beyond(-1, 3)) due("child " + child, p.said(child, 1, 1), -2);
      for (int key : beyond(1, 5)) due("key " + key, p.said(0, key, 1), -2);
      for (int learns : beyond(0, 99)) due("learns " + learns, p.said(0, 1, learns), -2);
      due("none yet", p.about(6), 0);
    });
    says("TEXTS (bits) by whose learns all are so (as now)", () -> {
      PianolaRolls p = with(2, "1");
      due("no texts", p.whose(), 0);
      read(p, "learns 3;");
      read(p, "wears 1;");
      read(p, "learns heard+who*3;");
      read(p, "learns 200;");
      due("nothing is said", p.whose(), 15);
      p.said(1, 1, 3);
      due("3 by child 1", p.whose(), 7);
      p.said(0, 1, 0);
      due("0 by child 0", p.whose(), 4);
      p.play(0, 0);
      due("as now", p.whose(), 0);
      p.said(NONE, 0, 0);
      p.said(0, 5, 99);
      due("99 at most", p.whose(), 8);
      p.by(0);
      due("whichever rules", p.whose(), 8);
      p.said(NONE, 0, 0);
      for (int i = 0; i < 7; i++) p.said(0, 2, 3);
      due("seven", p.whose(), 3);
      p.said(0, 2, 99);
      due("the eighth, too", p.whose(), 0);
    });
  }

  private static void most() {
    says("BEST TAUGHT: the CHILD that has LEARNT most KEYS (one at least)", () -> {
      PianolaRolls p = ruled(with(4, "12345", "1"), "learns 1;wears 0;");
      due("none has", p.best(), NONE);
      p.play(1, 3);
      due("child 3", p.best(), 3);
      p.play(0, 2);
      due("child 2", p.best(), 2);
      for (int i = 0; i < 5; i++) p.play(1, 3);
      due("how often doesn't count", p.best(), 2);
      p.by(NONE);
      due("by learns as it is", p.best(), 3);
    });
    says("of like ones the lowest", () -> {
      PianolaRolls p = ruled(with(4, "12"), "learns 1;wears 0;");
      for (int child = 3; child >= 0; child--) {
        p.play(0, child);
        due("child " + child, p.best(), child);
      }
    });
    says("; none.", () -> {
      PianolaRolls p = with(2, "1");
      due("no child", with("1").best(), NONE);
      p.play(0, 0);
      p.play(0, 0);
      due("too seldom", p.best(), NONE);
    });
    says("MOST WORN: the ROLL of most WEAR in all (above 0)", () -> {
      PianolaRolls p = with("12", "345", "0");
      due("none is worn", p.loved(), NONE);
      p.worn(2, 0, 1);
      due("a silent place counts", p.loved(), 2);
      p.worn(0, 0, 9);
      due("roll 0", p.loved(), 0);
      wear(p, 1, 4, 0, 1);
      due("8 in all are fewer", p.loved(), 0);
      wear(p, 1, 2, 2);
      due("10 in all", p.loved(), 1);
    });
    says("of like ones the lowest", () -> {
      PianolaRolls p = with("1", "12", "3", "4", "5");
      for (int roll = 4; roll >= 0; roll--) {
        p.worn(roll, 0, 7);
        due("roll " + roll, p.loved(), roll);
      }
      wear(p, 0, 6, 0);
      due("roll 1", p.loved(), 1);
    });
    says("; none.", () -> {
      PianolaRolls p = with("1");
      due("no roll", new PianolaRolls().loved(), NONE);
      p.worn(0, 0, 1);
      p.patch(0, 0);
      due("not worn any more", p.loved(), NONE);
    });
    says("DUMB: ROLLS (bits) without a hole that isn't TORN", () -> {
      due("no rolls", new PianolaRolls().dumb(), 0);
      PianolaRolls p = with("0", "10", "11", "0000000000000001", "5");
      due("silent", p.dumb(), 1);
      wear(p, 1, 9, 0);
      due("its hole is torn", p.dumb(), 3);
      wear(p, 2, 9, 0);
      wear(p, 4, 8, 0);
      due("one of two, and wear 8", p.dumb(), 3);
      wear(p, 3, 9, 15);
      due("the last place", p.dumb(), 11);
      wear(p, 4, 9, 0);
      wear(p, 2, 9, 1);
      due("all", p.dumb(), 31);
      p.patch(4, 0);
      due("patched", p.dumb(), 15);
    });
    says("BY THE BOOK: how often a ROLL was PLAYED (NONE: all)", () -> {
      PianolaRolls p = with(2, "1", "2");
      due("none", p.ledger(NONE), 0);
      p.play(0, 0);
      for (int i = 0; i < 29; i++) p.play(1, i % 2);
      due("all", p.ledger(NONE), 30);
      due("roll 0", p.ledger(0), 1);
      due("roll 1", p.ledger(1), 29);
      p.play(1, 0);
      due("30 at most", p.ledger(NONE), 30);
      due("roll 0 has gone", p.ledger(0), 0);
      due("roll 1", p.ledger(1), 30);
      p.undo();
      due("taken back", p.ledger(0), 1);
    });
  }
}
