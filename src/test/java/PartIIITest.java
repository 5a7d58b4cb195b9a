/** Part III of the document's terms: what comes, what rolls have in common, the phrase, motifs and mirrors. */
public final class PartIIITest extends Sentences {
  private static final String SIXTEEN_ONES = "1111111111111111";

  public static void main(String[] args) {
    open("III", between(document(), "==== III.", "==== IV."));
    asking();
    foretelling();
    changes();
    common();
    thePhrase();
    nearest();
    fills();
    motifs();
    mirrors();
    close();
    finish("part III: " + tests() + " tests");
  }

  private static void asking() {
    says("All that follows changes nothing but THE PHRASE", () -> {
      PianolaRolls p = lived();
      unchanged(p, () -> {
        for (int a = -1; a <= 2; a++) {
          for (int b = -1; b <= 2; b++) {
            p.foretold(60, a, 1 + b);
            p.edit(a, b);
            p.common(a, b, 0);
            p.fits(a, b);
            p.clash(a, b, 1);
            p.together(a, b);
            p.teaches(a, 4 * b, 0);
            p.likely(a, b, 1, 1, true);
          }
          p.nearest(a);
          p.motif(a, true);
          p.mirror(a, false);
          p.stair(a, 0);
          p.fills(a);
          p.parts(a);
          p.ledger(a);
        }
        p.alike();
        p.whose();
        p.best();
        p.loved();
        p.dumb();
      });
      due("steps are as they were", p.undo(), 1);
      p.phrase(NONE);
      unchanged(p, () -> {
        p.phrase(4);
        p.phrase(0);
        p.phrase(6);
        p.phrase(NONE);
      });
    });
  }

  private static void foretelling() {
    says("FORETOLD behind n SUNDAYS (1 .. 60", () -> {
      PianolaRolls p = with(2, "1", "22");
      PianolaRolls twin = with(2, "1", "22");
      for (int n = 1; n <= 60; n++) {
        twin.sunday(1);
        for (int child = 0; child < 2; child++) {
          due(n + " Sundays, child " + child, p.foretold(n, child, 2), twin.heard(child, 2));
        }
      }
      for (int n : beyond(1, 60)) due("foretold(" + n + ", ..)", p.foretold(n, 0, 1), NONE);
    });
    says("those that can pass)", () -> {
      PianolaRolls p = ruled(with(1, "1"), "wears 0;");
      passTo(p, 9990);
      p.forget(0, 1);
      for (int n = 1; n <= 60; n++) due(n + " Sundays from 9990 on", p.foretold(n, 0, 1), Math.min(9, n));
      p.sunday(9);
      due("none can pass", p.foretold(60, 0, 1), 9);
    });
    says("nothing else being done", () -> {
      PianolaRolls p = ruled(with(1, "1"), "wears 9;blurs 0;");
      unchanged(p, () -> due("torn behind one", p.foretold(60, 0, 1), 1));
      due("again", p.foretold(60, 0, 1), 1);
      due("nothing was heard", p.heard(0, 1), 0);
      p.by(NONE);
      due("by the laws without a text", p.foretold(60, 0, 1) > 1, true);
      PianolaRolls sundays = ruled(with(1, "1"), "wears 0;blurs if sunday<3 then 10 else 0 end;");
      due("the laws see SUNDAY pass", sundays.foretold(3, 0, 1), 0);
      due("the laws see SUNDAY pass", sundays.foretold(5, 0, 1), 2);
      due("without rolls", with(1).foretold(60, 0, 1), 0);
    });
  }

  private static void changes() {
    says("CHANGES from one ROLL to another: the fewest KEYS", () -> {
      PianolaRolls p = with("123", "123", "145", SIXTEEN_ONES, "2");
      due("none", p.edit(0, 1), 0);
      due("itself", p.edit(0, 0), 0);
      due("two of three", p.edit(0, 2), 2);
      due("all of 16", p.edit(3, 4), 16);
      due("and back", p.edit(4, 3), 16);
      PianolaRolls few = with("1212", "2121", "12345", "34512");
      due("one left out, one put in", few.edit(0, 1), 2);
      due("two left out, two put in", few.edit(2, 3), 4);
    });
    says("(silent ones, too)", () -> {
      PianolaRolls p = with("0", "000", "1", "0000000000000000", "101");
      due("put in", p.edit(0, 1), 2);
      due("left out", p.edit(1, 0), 2);
      due("changed", p.edit(0, 2), 1);
      due("alike", p.edit(0, 0), 0);
      due("15 put in", p.edit(0, 3), 15);
      due("two changed", p.edit(1, 4), 2);
    });
    says("put in, left out or changed into others", () -> {
      PianolaRolls p = with("123", "1234", "23", "153", "41235");
      due("put in at the end", p.edit(0, 1), 1);
      due("left out at the end", p.edit(1, 0), 1);
      due("left out ahead", p.edit(0, 2), 1);
      due("put in ahead", p.edit(2, 0), 1);
      due("changed", p.edit(0, 3), 1);
      due("put in at both ends", p.edit(0, 4), 2);
      due("put in and changed", p.edit(3, 4), 3);
    });
    says("(a TORN PLACE is as any KEY is)", () -> {
      PianolaRolls p = with("123", "153", "4", "5", "0");
      wear(p, 0, 8, 1);
      due("wear 8 is not torn", p.edit(0, 1), 1);
      wear(p, 0, 9, 1);
      due("as any", p.edit(0, 1), 0);
      due("of the other, too", p.edit(1, 0), 0);
      wear(p, 2, 9, 0);
      due("as a silent one", p.edit(2, 4), 0);
      due("it is left out as any", p.edit(0, 2), 2);
      wear(p, 3, 9, 0);
      due("both are torn", p.edit(2, 3), 0);
    });
  }

  private static void common() {
    says("COMMON to two ROLLS: the most KEYS both have in one order", () -> {
      PianolaRolls p = with("123", "321", "4", SIXTEEN_ONES);
      due("one of three", p.common(0, 1, NONE), 1);
      due("none", p.common(0, 2, NONE), 0);
      due("no first one", p.common(0, 2, 0), -2);
      due("all", p.common(0, 0, NONE), 3);
      due("all 16", p.common(3, 3, NONE), 16);
      due("the 16th", p.common(3, 3, 15), 15);
      due("no 17th", p.common(3, 3, 16), -2);
      due("one of 16", p.common(3, 0, NONE), 1);
      due("none of 16", p.common(2, 3, NONE), 0);
      due("the first of them", p.common(0, 3, 0), 0);
      due("the last, behind two that none of 16 is like", p.common(1, 3, 0), 2);
    });
    says("others between them aside", () -> {
      PianolaRolls p = with("1523", "142344", "3211");
      due("1, 2, 3", p.common(0, 1, NONE), 3);
      int[] places = {0, 2, 3};
      for (int i = 0; i < 3; i++) due("place " + i, p.common(0, 1, i), places[i]);
      due("and back", p.common(1, 0, 2), 3);
      due("of the third", p.common(0, 2, NONE), 1);
    });
    says("(TORN PLACES aside, silent ones too)", () -> {
      PianolaRolls p = with("12", "12", "0000", "0102");
      wear(p, 0, 8, 0);
      due("wear 8 is not torn", p.common(0, 1, NONE), 2);
      wear(p, 0, 9, 0);
      due("torn in the first", p.common(0, 1, NONE), 1);
      due("by place 1", p.common(0, 1, 0), 1);
      due("torn in the second", p.common(1, 0, NONE), 1);
      wear(p, 1, 9, 1);
      due("torn in both", p.common(0, 1, NONE), 0);
      wear(p, 1, 9, 0);
      wear(p, 0, 9, 1);
      due("torn ones are not alike", p.common(0, 1, NONE), 0);
      due("silent ones", p.common(2, 2, NONE), 0);
      due("between others", p.common(3, 3, NONE), 2);
      due("the second", p.common(3, 3, 1), 3);
    });
    says("by which PLACES of the first: of like ones the lowest first, then the next, ...", () -> {
      PianolaRolls p = with("1212", "12", "21", "3411", "1040300");
      due("1 2: the first", p.common(0, 1, 0), 0);
      due("1 2: the next", p.common(0, 1, 1), 1);
      due("2 1: the first", p.common(0, 2, 0), 1);
      due("2 1: the next", p.common(0, 2, 1), 2);
      due("one of three kinds", p.common(3, 4, NONE), 1);
      due("the lowest", p.common(3, 4, 0), 0);
      due("of the other", p.common(4, 3, 0), 0);
      PianolaRolls q = with("12331", "3121");
      // 1 2 1 alone is of three: by places 0, 1, 4.
      int[] places = {0, 1, 4};
      for (int i = 0; i < 3; i++) due("place " + i, q.common(0, 1, i), places[i]);
      due("2 and 1 have nothing behind them", with("1234", "3421").common(0, 1, 0), 2);
      PianolaRolls taken = with("1234", "34123", "111", "11");
      for (int i = 0; i < 3; i++) due("3 of the first, not that ahead of it " + i, taken.common(0, 1, i), i);
      for (int i = 0; i < 2; i++) due("each of the second once " + i, taken.common(2, 3, i), i);
      PianolaRolls next = with("1332", "132");
      int[] lowest = {0, 1, 3};
      for (int i = 0; i < 3; i++) due("the next lowest " + i, next.common(0, 1, i), lowest[i]);
    });
  }

  private static PianolaRolls told(PianolaRolls p, String phrase) {
    p.phrase(NONE);
    for (int i = 0; i < phrase.length(); i++) p.phrase(phrase.charAt(i) - '0');
    return p;
  }

  private static void thePhrase() {
    says("THE PHRASE (8 KEYS 0 .. 5 at most; told; at first empty)", () -> {
      PianolaRolls p = with("0123450");
      due("at first", p.about(5), 0);
      for (int key : beyond(-1, 5)) due("phrase(" + key + ")", p.phrase(key), -2);
      for (int i = 0; i < 6; i++) due("key " + i, p.phrase(i), i + 1);
      due("as told", p.fits(0, 0), 1);
      p.phrase(0);
      due("as told", p.fits(0, 0), 1);
      due("the eighth", p.phrase(0), 8);
      for (int key = 0; key <= 5; key++) due("a ninth", p.phrase(key), -2);
      due("8 yet", p.about(5), 8);
    });
    says("FITS a ROLL from a PLACE on (all of it within)", () -> {
      PianolaRolls p = with("11111", SIXTEEN_ONES, "11111111", "1111111");
      due("of one key", told(p, "1").fits(0, 0), 31);
      due("of four", told(p, "1111").fits(0, 0), 3);
      due("as long", told(p, "11111").fits(0, 0), 1);
      due("longer", told(p, "111111").fits(0, 0), 0);
      due("longer, whatever may be unlike", told(p, "111111").fits(0, 8), 0);
      due("8 of 16", told(p, "11111111").fits(1, 0), 0x1ff);
      due("8 of 8", p.fits(2, 0), 1);
      due("8 of 7", p.fits(3, 8), 0);
      due("one of 16", told(p, "1").fits(1, 0), 0xffff);
    });
    says("with so many unlike KEYS at most", () -> {
      PianolaRolls p = with("1111111111111111", "12221");
      told(p, "22222222");
      for (int unlike = 0; unlike <= 8; unlike++) due("unlike " + unlike, p.fits(0, unlike), unlike < 8 ? 0 : 0x1ff);
      told(p, "122");
      int[] fits = {1, 3, 7, 7};
      for (int unlike = 0; unlike <= 3; unlike++) due("unlike " + unlike, p.fits(1, unlike), fits[unlike]);
    });
    says("(TORN PLACES are as any)", () -> {
      PianolaRolls p = told(with("1232"), "11");
      wear(p, 0, 8, 1);
      due("wear 8 is not torn", p.fits(0, 0), 0);
      wear(p, 0, 9, 1);
      due("as any", p.fits(0, 0), 1);
      due("one unlike", p.fits(0, 1), 3);
      due("as a silent one", told(p, "0").fits(0, 0), 2);
      due("as its own", told(p, "2").fits(0, 0), 10);
      wear(p, 0, 9, 0, 2, 3);
      due("all are torn", told(p, "5555").fits(0, 0), 1);
    });
    says("PLACES (bits; the empty one from each)", () -> {
      PianolaRolls p = with("1", "1234", SIXTEEN_ONES);
      due("of one place", p.fits(0, 0), 1);
      due("of four", p.fits(1, 8), 15);
      due("of 16", p.fits(2, 0), 0xffff);
      wear(p, 1, 9, 0);
      due("torn or not", p.fits(1, 0), 15);
      due("the last place alone", told(p, "4").fits(1, 0), 9);
    });
  }

  private static void nearest() {
    says("NEAREST: the PLACE by which fewest are unlike", () -> {
      PianolaRolls p = with("123124", "1");
      due("none unlike, at the end", told(p, "124").nearest(0), 3);
      due("one unlike", told(p, "235").nearest(0), 1);
      due("all of it within", told(p, "45").nearest(0), 0);
      due("as long", told(p, "5").nearest(1), 0);
      wear(p, 0, 9, 5);
      due("a torn one is as any", told(p, "5").nearest(0), 5);
    });
    says("of like ones the lowest", () -> {
      PianolaRolls p = with("3131", SIXTEEN_ONES);
      due("1 at 1 and 3", told(p, "1").nearest(0), 1);
      due("31 at 0 and 2", told(p, "31").nearest(0), 0);
      due("all unlike", told(p, "55").nearest(0), 0);
      due("8 unlike", told(p, "22222222").nearest(1), 0);
    });
    says("none (it is longer than the ROLL, or empty)", () -> {
      PianolaRolls p = with("123", "1234512");
      due("empty", p.nearest(0), NONE);
      due("as long", told(p, "555").nearest(0), 0);
      due("longer", told(p, "1231").nearest(0), NONE);
      due("8 of 7", told(p, "12345121").nearest(1), NONE);
      p.phrase(NONE);
      due("empty again", p.nearest(0), NONE);
    });
  }

  private static void fills() {
    says("FILLS: in how many ways TORN PLACES (4 at most) can have KEYS 0 .. 5", () -> {
      PianolaRolls p = with("123451", SIXTEEN_ONES);
      int ways = 1;
      for (int torn = 0; torn <= 4; torn++) {
        due(torn + " torn", p.fills(0), ways);
        p.worn(0, torn, 9);
        ways *= 6;
      }
      due("5 torn", p.fills(0), NONE);
      p.worn(0, 5, 9);
      due("6 torn", p.fills(0), NONE);
      p.patch(0, 1);
      p.patch(0, 5);
      due("4 torn again", p.fills(0), 1296);
      wear(p, 1, 9, 0, 5, 10, 15);
      due("4 of 16", p.fills(1), 1296);
      PianolaRolls one = with("1");
      one.worn(0, 0, 9);
      for (int key = 0; key <= 5; key++) due("key " + key, told(one, Integer.toString(key)).fills(0), 1);
    });
    says("so that THE PHRASE is in the ROLL somewhere, all alike", () -> {
      PianolaRolls p = told(with("11", "1203", SIXTEEN_ONES), "0");
      wear(p, 0, 9, 0, 1);
      due("in one of two at least", p.fills(0), 36 - 25);
      due("in both", told(p, "00").fills(0), 1);
      due("too long", told(p, "000").fills(0), 0);
      due("in it, none torn", told(p, "203").fills(1), 1);
      due("not in it, none torn", told(p, "204").fills(1), 0);
      due("too long", told(p, "12030").fills(1), 0);
      wear(p, 1, 9, 3);
      due("at the end", told(p, "204").fills(1), 1);
      due("in it already", told(p, "120").fills(1), 6);
      wear(p, 2, 9, 0, 5, 10, 15);
      due("8 ones with one torn between", told(p, "11111111").fills(2), 6 * 6 * (2 * 6 - 1));
    });
  }

  private static void motifs() {
    says("A MOTIF: the longest row of PLACES whose KEYS come again from another PLACE on", () -> {
      PianolaRolls p = with("1", "12", "123123", "12341235", "1020");
      due("of one place", p.motif(0, false), 0);
      due("none", p.motif(1, false), 0);
      due("its place", p.motif(1, true), NONE);
      due("side by side", p.motif(2, false), 3);
      due("the longest", p.motif(3, false), 3);
      due("silent ones, too", p.motif(4, false), 1);
      // What lies behind the last place is none of the roll's, nor what another one, asked ahead, had there.
      PianolaRolls q = with("00", "111111", "11");
      due("all silent", q.motif(0, false), 1);
      due("of six", q.motif(1, false), 5);
      due("of two, behind six", q.motif(2, false), 1);
    });
    says("(both may overlap", () -> {
      PianolaRolls p = with("11", "111", SIXTEEN_ONES, "12121", "1212121212121212");
      due("of two", p.motif(0, false), 1);
      due("of three", p.motif(1, false), 2);
      due("of 16", p.motif(2, false), 15);
      due("12121", p.motif(3, false), 3);
      due("of 16 by twos", p.motif(4, false), 14);
      for (int roll = 0; roll < 5; roll++) due("from the first on", p.motif(roll, true), 0);
    });
    says("TORN PLACES are in none)", () -> {
      PianolaRolls p = with("123123", "11");
      wear(p, 0, 8, 1);
      due("wear 8 is not torn", p.motif(0, false), 3);
      wear(p, 0, 9, 1);
      due("torn in the first one", p.motif(0, false), 1);
      due("the first PLACE", p.motif(0, true), 0);
      wear(p, 0, 9, 4);
      due("torn in both", p.motif(0, false), 1);
      wear(p, 1, 9, 0);
      due("one of two", p.motif(1, false), 0);
      wear(p, 1, 9, 1);
      due("both", p.motif(1, false), 0);
      due("its place", p.motif(1, true), NONE);
    });
    says("how many; the first PLACE of the earliest", () -> {
      PianolaRolls p = with("5112233", "3412120", "2005510", "1234512");
      due("of like ones 11", p.motif(0, false), 1);
      due("from 1 on", p.motif(0, true), 1);
      due("12 again", p.motif(1, false), 2);
      due("from 2 on", p.motif(1, true), 2);
      due("of like ones 0", p.motif(2, true), 1);
      due("12 at the end", p.motif(3, true), 0);
    });
  }

  private static void mirrors() {
    says("A MIRROR: the longest row of PLACES that is alike read back", () -> {
      PianolaRolls p = with("1", "12", "12321", "1221", SIXTEEN_ONES);
      due("of one place", p.mirror(0, false), 1);
      due("of two unlike", p.mirror(1, false), 1);
      due("odd", p.mirror(2, false), 5);
      due("even", p.mirror(3, false), 4);
      due("16", p.mirror(4, false), 16);
      PianolaRolls q = with("0110", "5430034", "1234512345123451");
      due("silent ones, too", q.mirror(0, false), 4);
      due("at the end", q.mirror(1, false), 6);
      due("from 1 on", q.mirror(1, true), 1);
      due("none but of one", q.mirror(2, false), 1);
    });
    says("(TORN ones are as any)", () -> {
      PianolaRolls p = with("123", "12345");
      wear(p, 0, 8, 0);
      due("wear 8 is not torn", p.mirror(0, false), 1);
      wear(p, 0, 9, 0);
      due("at one end", p.mirror(0, false), 3);
      wear(p, 1, 9, 2);
      due("between: 1, 2 and it", p.mirror(1, false), 3);
      wear(p, 1, 9, 3);
      due("both", p.mirror(1, false), 4);
      wear(p, 1, 9, 0, 1, 4);
      due("all", p.mirror(1, false), 5);
    });
    says("how many; its first PLACE", () -> {
      PianolaRolls p = with("12344", "123454");
      due("how many", p.mirror(0, false), 2);
      due("from 3 on", p.mirror(0, true), 3);
      due("how many", p.mirror(1, false), 3);
      due("from 3 on", p.mirror(1, true), 3);
    });
    says("of like ones the lowest", () -> {
      PianolaRolls p = with("123", "12131", "5112233");
      due("of one", p.mirror(0, true), 0);
      due("121 and 131", p.mirror(1, false), 3);
      due("121", p.mirror(1, true), 0);
      due("11, 22 and 33", p.mirror(2, true), 1);
    });
  }
}
