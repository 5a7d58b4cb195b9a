/** Part II of the document's terms: texts, what they say and their faults, sentence by sentence. */
public final class PartIITest extends Sentences {
  private static final String ONES = "1,1,1,1,1,1,1,1,1,1,1,1,1,1,1,1";

  public static void main(String[] args) {
    open("II", between(document(), "==== II.", "==== III."));
    tokens();
    laws();
    clauses();
    sums();
    asks();
    names();
    reckoning();
    faults();
    faultyNumbers();
    faultyLaws();
    tooMany();
    ruling();
    byText();
    close();
    finish("part II: " + tests() + " tests");
  }

  private static void tokens() {
    says("TEXTS 0 .. 3", () -> {
      PianolaRolls p = new PianolaRolls();
      for (int i = 0; i < 4; i++) {
        due("text " + i + " ahead", p.by(i), false);
        due("text()", read(p, "child;"), i);
        due("text " + i, p.by(i), true);
      }
      due("a fifth", read(p, "child;"), NONE);
      due("text 4", p.by(4), false);
    });
    says(": of up to 300 bytes", () -> {
      fine(times(294, " ") + "child;");
      faulty(times(294, " ") + "child?", 1, 299);
      faulty(times(295, " ") + "child", 1, 300);
      // A sign that could be the first byte of a longer one is the last byte that there can be.
      faulty(times(289, " ") + "wears if 1<", 1, 300);
      faulty(times(289, " ") + "wears if 1>", 1, 300);
      fine("wears " + times(293, "0") + ";");
      // As many tokens as there can be: 300 of one byte each.
      faulty(times(300, ";"), 1, 0);
      faulty(times(300, "1;").substring(0, 300), 1, 0);
      faulty("learns(" + times(292, "(") + ";", 3, 14);
      fine("wears 1" + times(146, "+1") + ";");
      faulty("wears 1" + times(146, "+1") + "+", 1, 300);
    });
    says("TOKENS, blanks (32, 10) aside", () -> {
      fine(" \n child \n ; \n");
      fine("  \n\n");
      for (int sign = 0; sign < 256; sign++) {
        if (sign == 32 || sign == 10) fine("child" + (char) sign + ";");
        else if (sign != ';' && !Character.isLetter((char) (sign < 128 ? sign : 0))) faulty("child" + (char) sign + ";", 1, 5);
      }
    });
    says("letters a .. z, A .. Z one behind the other (one TOKEN)", () -> {
      for (char letter : "azAZmM".toCharArray()) faulty("child" + letter + ";", 1, 0);
      // The signs next to the letters are none.
      for (char sign : "`{@[".toCharArray()) faulty("child" + sign + ";", 1, 5);
      faulty("ch ild;", 1, 0);
      faulty("Child;", 1, 0);
      faulty("CHILD;", 1, 0);
      faulty("childchild;", 1, 0);
      fine("play0to0;");
      faulty("play 0 toO;", 1, 7);
    });
    says("digits likewise (NUMBERS, 0 .. 9999)", () -> {
      fine("wears 0;");
      fine("wears 9999;");
      for (char digit = '0'; digit <= '9'; digit++) fine("wears " + digit + ";");
      faulty("wears 1 2;", 1, 8);
      faulty("wears 10000;", 2, 6);
      faulty("wears 1:;", 1, 7);
      faulty("wears /1;", 1, 6);
      worth("0012+00", 12);
    });
    says("<= >= < > = # + - * / ( ) , ; (the longest)", () -> {
      fine("roll 1,2;wears if 1<=(2)or 1>=2 or 1<2 or 1>2 or 1=2 or 1#2 then 1+2-3*4/5 else 6 end;");
      for (String sign : new String[] {"<", ">"}) {
        fine("wears if 1" + sign + "=2 then 1 else 2 end;");
        faulty("wears if 1" + sign + " =2 then 1 else 2 end;", 1, 12);
        faulty("wears if 1" + sign + "==2 then 1 else 2 end;", 1, 12);
        faulty("wears if 1=" + sign + "2 then 1 else 2 end;", 1, 11);
        faulty("wears if 1" + sign + sign + "2 then 1 else 2 end;", 1, 11);
        faulty("wears 1" + sign + "=", 1, 7);
        // At the end of the tape there is nothing behind it, whatever was fed there once.
        PianolaRolls p = new PianolaRolls();
        put(p, "wears if 1" + sign + "=2");
        p.end(11);
        due("cut behind " + sign, p.text(), NONE);
        due("its fault's place", p.fault(1), 11);
      }
    });
    says("{CLAUSE}, 24 at most", () -> {
      fine("");
      fine("child;");
      fine(times(24, "child;"));
      faulty(times(25, "child;"), 6, 144);
      faulty(";", 1, 0);
    });
  }

  private static void laws() {
    says("blurs SUM ; or learns SUM ; or wears SUM ;", () -> {
      for (String law : new String[] {"blurs", "learns", "wears"}) {
        fine(law + " 1;");
        faulty(law, 1, law.length());
        faulty(law + ";", 1, law.length());
        faulty(law + " 1", 1, law.length() + 2);
        faulty(law + " 1 child;", 1, law.length() + 3);
        faulty(law + " 1,2;", 1, law.length() + 2);
      }
    });
    says("(each once)", () -> {
      String[] laws = {"blurs 1;", "learns 2;", "wears 3;"};
      fine(laws[0] + laws[1] + laws[2]);
      fine(laws[2] + laws[1] + laws[0]);
      for (String law : laws) faulty(law + law, 4, law.length());
    });
  }

  private static void clauses() {
    says("or roll NUMBER {, NUMBER} ; (KEYS, a new ROLL of these, 16 at most)", () -> {
      PianolaRolls p = new PianolaRolls();
      read(p, "roll 5;roll 0,1,2,3,4,5,0,1,2,3,4,5,0,1,2,3;");
      due("played", p.played(0), NONE);
      due("rolls", p.is(2), 2);
      due("places of the first", p.ofRoll(0, 0), 1);
      due("its key", p.at(0, 0, 0), 5);
      due("places of the second", p.ofRoll(1, 0), 16);
      for (int at = 0; at < 16; at++) due("key " + at, p.at(1, at, 0), at % 6);
      faulty("roll;", 1, 4);
      faulty("roll 1,;", 1, 7);
      faulty("roll ,1;", 1, 5);
      faulty("roll 1 1;", 1, 7);
      faulty("roll " + ONES + ",1;", 7, 37);
    });
    says("or child ;", () -> {
      fine("child;");
      faulty("child 1;", 1, 6);
      faulty("child", 1, 5);
    });
    says("or play NUMBER to NUMBER ;", () -> {
      PianolaRolls p = with(3, "1", "22");
      read(p, "play 1 to 2;");
      due("played", p.played(0), NONE);
      due("roll 1 to child 2", pages(p), " book 0/1/2/2");
      faulty("play;", 1, 4);
      faulty("play to 0;", 1, 5);
      faulty("play 0;", 1, 6);
      faulty("play 0 0;", 1, 7);
      faulty("play 0 to;", 1, 9);
      faulty("play 0 to 0,1;", 1, 11);
    });
    says("or patch NUMBER of NUMBER ; (PLACE, ROLL)", () -> {
      PianolaRolls p = with("111", "111", "111");
      wear(p, 1, 5, 2);
      wear(p, 2, 5, 1);
      read(p, "patch 2 of 1;");
      due("played", p.played(0), NONE);
      due("place 2 of roll 1", p.at(1, 2, 1), 0);
      due("place 1 of roll 2", p.at(2, 1, 1), 5);
      faulty("patch of 0;", 1, 6);
      faulty("patch 0 to 0;", 1, 8);
      faulty("patch 0 of;", 1, 10);
    });
    says("or forget NUMBER by NUMBER ; (KEY, CHILD)", () -> {
      PianolaRolls p = with(3, "12");
      p.play(0, 1);
      p.play(0, 2);
      read(p, "forget 1 by 2;");
      due("played", p.played(0), NONE);
      due("key 1, child 2", p.heard(2, 1), 0);
      due("key 2, child 2", p.heard(2, 2), 1);
      due("key 1, child 1", p.heard(1, 1), 1);
      due("key 2, child 1", p.heard(1, 2), 1);
      faulty("forget by 0;", 1, 7);
      faulty("forget 1 of 0;", 1, 9);
      faulty("forget 1 by;", 1, 11);
    });
    says("or sunday NUMBER ;", () -> {
      PianolaRolls p = new PianolaRolls();
      read(p, "sunday 60;sunday 1;");
      due("played", p.played(0), NONE);
      due("SUNDAY", p.is(0), 61);
      faulty("sunday;", 1, 6);
      faulty("sunday key;", 1, 7);
      faulty("sunday -1;", 1, 7);
      faulty("sunday 1,2;", 1, 8);
    });
  }

  private static void sums() {
    says("SUM: PRODUCT {+ or - PRODUCT}", () -> {
      worth("7", 7);
      worth("1+2*3", 7);
      worth("2*3+1", 7);
      worth("1-2+3-4+5", 3);
      worth("20-2*3", 14);
      faulty("wears 1+;", 1, 8);
      faulty("wears +1;", 1, 6);
      faulty("wears 1+-+1;", 1, 9);
    });
    says("PRODUCT: ONE {* or / ONE}", () -> {
      worth("2*3", 6);
      worth("9/2*3/2", 6);
      worth("2*-3*-4", 24);
      faulty("wears 1*;", 1, 8);
      faulty("wears *1;", 1, 6);
      faulty("wears 1*/1;", 1, 8);
    });
    says("ONE: NUMBER, NAME, ( SUM ), - ONE", () -> {
      worth("99", 99);
      worth("key", 2);
      worth("(1+2)*3", 9);
      worth("--5", 5);
      worth("-(2-9)", 7);
      worth("10-5", 5);
      worth("10- -5", 15);
      worth("10+-2*3", 4);
      faulty("wears ();", 1, 7);
      faulty("wears (1;", 1, 8);
      faulty("wears 1);", 1, 7);
      faulty("wears -;", 1, 7);
      faulty("wears child;", 1, 6);
      faulty("wears by;", 1, 6);
    });
    says("digits ONE (its digits together", () -> {
      worth("digits 0", 0);
      worth("digits 9", 9);
      worth("digits 10", 1);
      worth("digits 9999", 36);
      worth("digits(999*1001)", 54);
      worth("digits(9999*9999)", 1);
      worth("digits 12+34", 37);
      worth("digits 99*2", 36);
      worth("digits digits 9999", 9);
      faulty("wears digits;", 1, 12);
    });
    says("of one below 0 those without its sign)", () -> {
      worth("digits -9", 9);
      worth("digits(0-9999)", 36);
      worth("digits(-1000*1000)", 1);
      worth("50+-digits 45", 41);
    });
    says("holes ONE (how many holes the ROLL of that number has", () -> {
      PianolaRolls p = ruled(with(1, "0", "1", "10203", "0000000000000000", "1234512345123451"),
          "learns holes(sunday+0);");
      int[] holes = {0, 1, 3, 0, 16};
      for (int i = 0; i < 5; i++) {
        due("holes of roll " + i, p.law(0, 0, 0, false), holes[i]);
        p.sunday(1);
      }
      ruled(p, "learns holes 4;");
      wear(p, 4, 9, 0, 15);
      due("torn or not", p.law(0, 0, 0, false), 16);
      p.hole(4, 15, 0);
      due("one less", p.law(0, 0, 0, false), 15);
      worth("holes 1+10", 14);
      worth("holes holes 0", 4);
      worth("holes-holes 2", 1);
    });
    says("0 if none such is told)", () -> {
      for (String number : new String[] {"2", "4", "5", "9999", "-1", "(1000*1000)", "(-1000*1000)", "256", "(9*7282-1)"}) {
        worth("7+holes" + (number.startsWith("(") ? "" : " ") + number, 7);
      }
      PianolaRolls p = ruled(with(1, "1"), "learns holes 1;");
      due("none such yet", p.law(0, 0, 0, false), 0);
      cut(p, "11");
      due("it is told now", p.law(0, 0, 0, false), 2);
    });
  }

  private static void asks() {
    says("if EITHER then SUM else SUM end", () -> {
      worth("if 1=1 then 2+3 else 4*5 end", 5);
      worth("if 1=2 then 2+3 else 4*5 end", 20);
      worth("1+if 1=2 then 2 else 3 end*4", 13);
      faulty("wears if then 1 else 2 end;", 1, 9);
      faulty("wears if 1=1 1 else 2 end;", 1, 13);
      faulty("wears if 1=1 then else 2 end;", 1, 18);
      faulty("wears if 1=1 then 1 end;", 1, 20);
      faulty("wears if 1=1 then 1 else end;", 1, 25);
      faulty("wears if 1=1 then 1 else 2;", 1, 26);
      faulty("wears if 1 then 1 else 2 end;", 1, 11);
    });
    says("EITHER: BOTH {or BOTH}", () -> {
      String[] asks = {"1=2", "1=1"};
      for (int bits = 0; bits < 8; bits++) {
        String either = asks[bits & 1] + " or " + asks[bits >> 1 & 1] + " or " + asks[bits >> 2];
        worth("if " + either + " then 1 else 2 end", bits != 0 ? 1 : 2);
      }
      faulty("wears if 1=1 or then 1 else 2 end;", 1, 16);
      faulty("wears 1 or 2;", 1, 8);
    });
    says("BOTH: ASK {and ASK}", () -> {
      String[] asks = {"1=2", "1=1"};
      for (int bits = 0; bits < 8; bits++) {
        String[] three = {asks[bits & 1], asks[bits >> 1 & 1], asks[bits >> 2]};
        boolean[] so = {(bits & 1) != 0, (bits & 2) != 0, (bits & 4) != 0};
        worth("if " + String.join(" and ", three) + " then 1 else 2 end", bits == 7 ? 1 : 2);
        worth("if " + three[0] + " or " + three[1] + " and " + three[2] + " then 1 else 2 end", so[0] || so[1] && so[2] ? 1 : 2);
        worth("if " + three[0] + " and " + three[1] + " or " + three[2] + " then 1 else 2 end", so[0] && so[1] || so[2] ? 1 : 2);
      }
      faulty("wears if 1=1 and then 1 else 2 end;", 1, 17);
    });
    says("ASK: not ASK, or SUM one of < <= > >= = # (unlike) SUM", () -> {
      String[] signs = {"<", "<=", ">", ">=", "=", "#"};
      int[] lessSameMore = {1, 3, 4, 6, 2, 5};
      for (int i = 0; i < 6; i++) {
        for (int right = 4; right >= 2; right--) {
          int want = lessSameMore[i] >> 4 - right & 1;
          worth("if 1+2" + signs[i] + right + " then 1 else 0 end", want);
          worth("if not 3" + signs[i] + right + " then 1 else 0 end", 1 - want);
          worth("if -" + right + signs[i] + "-3 then 1 else 0 end", want);
        }
      }
      worth("if not not 1=1 then 1 else 2 end", 1);
      worth("if not 1=2 and 1=2 then 1 else 2 end", 2);
      worth("if not 1=1 or 1=1 then 1 else 2 end", 1);
      // What stands ahead of a not waits for it, and stays what it is.
      worth("if 1=1 and not 1=2 then 1 else 2 end", 1);
      worth("if 1=2 or not 1=2 then 1 else 2 end", 1);
      worth("if 1=1 and not 1=1 then 1 else 2 end", 2);
      worth("7+if not 1=2 then 1 else 2 end", 8);
      worth("7*if not 1=1 then 1 else 2 end", 14);
      faulty("wears if not then 1 else 2 end;", 1, 13);
      faulty("wears if 1< then 1 else 2 end;", 1, 12);
      faulty("wears if (1<2) then 1 else 2 end;", 1, 11);
      faulty("wears if 1<2<3 then 1 else 2 end;", 1, 12);
      faulty("wears not 1;", 1, 6);
    });
  }

  private static void names() {
    says("NAMES: sunday, key in all", () -> {
      PianolaRolls p = ruled(with(1, "05"), "blurs sunday*2+key;learns sunday*3+key;wears sunday*4+key;");
      passTo(p, 1);
      due("blurs", p.law(0, 1, 0, true), 7);
      due("learns", p.law(0, 1, 0, false), 8);
      due("wears", p.at(0, 1, 2), 9);
      due("blurs of a silent one", p.law(0, 0, 0, true), 2);
      due("wears of a silent one", p.at(0, 0, 2), 4);
      ruled(p, "learns sunday/101;");
      passTo(p, 9999);
      due("the last Sunday", p.law(0, 1, 0, false), 99);
    });
    says("who (the CHILD), heard (how often it heard that KEY) in blurs, learns", () -> {
      PianolaRolls p = ruled(with(4, "12"), "wears 0;blurs who*2+heard;learns who*10+heard;");
      for (int child = 0; child < 4; child++) {
        due("blurs by child " + child, p.law(0, 0, child, true), child * 2);
        due("learns by child " + child, p.law(0, 0, child, false), child * 10);
      }
      due("key 1 is heard", p.play(0, 1), 1);
      due("blurs, heard once", p.law(0, 0, 1, true), 3);
      due("learns, heard once", p.law(0, 0, 1, false), 11);
      due("of the other key", p.law(0, 1, 1, false), 10);
      due("by the other child", p.law(0, 0, 0, false), 0);
      fine("blurs who+heard;learns who+heard;");
      faulty("wears who;", 5, 6);
      faulty("wears heard;", 5, 6);
    });
    says("roll, place, wear in blurs, wears", () -> {
      PianolaRolls p = ruled(with(1, "1", "1", "1", "1", "1111111111111111"), "blurs roll+wear;wears place-roll;");
      for (int roll = 0; roll < 5; roll++) due("blurs by roll " + roll, p.law(roll, 0, 0, true), roll);
      p.worn(1, 0, 9);
      due("blurs by wear 9", p.law(1, 0, 0, true), 10);
      for (int at = 0; at < 16; at++) due("wears by place " + at, p.at(4, at, 2), Math.max(0, Math.min(9, at - 4)));
      ruled(p, "wears wear-1;");
      due("wears by wear 9", p.at(1, 0, 2), 8);
      due("wears by wear 0", p.at(0, 0, 2), 0);
      fine("blurs roll+place+wear;wears roll+place+wear;");
      faulty("learns roll;", 5, 7);
      faulty("learns place;", 5, 7);
      faulty("learns wear;", 5, 7);
    });
  }

  private static void reckoning() {
    says("From the left", () -> {
      worth("20-5-3", 12);
      worth("20-5+3", 18);
      worth("100/7/2", 7);
      worth("7/2*2", 6);
      worth("2*7/2", 7);
    });
    says("/ cuts towards 0, by 0 it is 0", () -> {
      worth("7/2", 3);
      worth("10+-7/2", 7);
      worth("10+7/-2", 7);
      worth("-7/-2", 3);
      worth("10+-1/2", 10);
      worth("5/0", 0);
      worth("0/0", 0);
      worth("9-5/0", 9);
      worth("9--5/(3-3)", 9);
      worth("1000*1000/0+4", 4);
    });
    says("what is above 1000000 (below the same less) is that, at each step", () -> {
      // 999 * 1001 is 999999.
      worth("1000*1000-999*1001", 1);
      worth("999*1001+1-999*1001", 1);
      worth("999*1001+2-999*1001", 1);
      worth("1000*1000+1-999*1001", 1);
      worth("5+-1000*1000+1000*1000", 5);
      worth("-1000*1000-1+1000*1000+5", 5);
      worth("-999*1001-2+1000*1000+5", 5);
      worth("-999*1001-1+999*1001+5", 4);
      worth("1000*1000- -1-999*1001", 1);
      worth("1001*1000-999*1001", 1);
      worth("9999*9999/9999-50", 50);
      worth("-9999*9999/9999+150", 50);
      // Products that are beyond what an int holds.
      worth("1000*1000*(1000*1000)/5000/4", 50);
      worth("60+-1000*1000*(1000*1000)/1000/100", 50);
      worth("-1000*1000*(-1000*1000)/5000/4", 50);
      worth("1000*1000+1000*1000-999*1001", 1);
      worth("5+(-1000*1000-1000*1000+1000*1000)", 5);
      worth("-(9999*9999)+1000*1000+5", 5);
      worth("if 9999*9999=1000*1000 then 1 else 2 end", 1);
    });
    says("or and and look at both sides always, of if just the SUM that is chosen is asked", () -> {
      worth("if 1=1 or 1/0=1 then 3 else 4 end", 3);
      worth("if 1/0=1 and 1=1 then 3 else 4 end", 4);
      worth("if 1=1 then 3 else 5/0 end", 3);
      worth("if 1=2 then 9999*9999 else 3 end+1", 4);
      worth("2*if 1=1 then if 1=2 then 3 else 4 end else if 1=1 then 5 else 6 end end-1", 7);
      worth("2*if 1=2 then if 1=2 then 3 else 4 end else if 1=1 then 5 else 6 end end-1", 9);
      worth("if if 1=1 then 1 else 2 end=1 and if 1=2 then 1 else 2 end=2 then 3 else 4 end", 3);
      // As much as can be waiting at once: an or, an and, an ask, a sum and a product in each if.
      String deep = "7";
      for (int i = 0; i < 7; i++) deep = "if 1=2or 1=1and 7=0+1*" + deep + " then 7else 2end";
      worth(deep, 7);
      worth(deep.replace("*7", "*6"), 2);
    });
  }

  private static void faults() {
    says("FAULTS, the first as TOKENS are come to", () -> {
      faulty("wears who;?", 5, 6);
      faulty("wears 1;wears 2;roll 6;", 4, 8);
      faulty("roll 6;wears 1;wears 2;", 2, 5);
      faulty("roll 1?;roll 6;", 1, 6);
      faulty("learns roll+10000;", 5, 7);
      faulty("learns 10000+roll;", 2, 7);
      faulty("play 5 of 9;", 2, 5);
      faulty("play 0 of 9;", 1, 7);
    });
    says("at the TOKEN's first byte (of the end at the length)", () -> {
      faulty("child", 1, 5);
      faulty("child  \n", 1, 8);
      faulty("\n\n  endless;", 1, 4);
      faulty("wears 12345;", 2, 6);
      faulty("wears\n\n10000;", 2, 7);
      faulty("wears 1 ", 1, 8);
      faulty(times(299, " ") + "?", 1, 299);
      faulty(times(293, " ") + "wears 1", 1, 300);
    });
    says("of one the least", () -> {
      faulty(times(24, "child;") + "?", 1, 144);
      faulty("wears 1;" + times(23, "child;") + "wears 2;", 4, 146);
      faulty("wears 1;" + times(23, "child;") + "blurs 2;", 6, 146);
      faulty("roll " + ONES + ",6;", 2, 37);
      faulty("roll " + ONES + ",key;", 1, 37);
      faulty("child 10000;", 1, 6);
      faulty("learns 1 roll;", 1, 9);
      faulty("wears ((((((((1(", 1, 15);
    });
    says("1 it can't stand there, or is none", () -> {
      for (int sign = 0; sign < 256; sign++) {
        if ("abcdefghijklmnopqrstuvwxyz-(0123456789 \n".indexOf(Character.toLowerCase((char) sign)) >= 0) continue;
        faulty((char) sign + "child;", 1, 0);
        faulty((char) sign + " 1;", 1, 0);
        faulty("wears " + (char) sign + "1;", 1, 6);
      }
      for (String none : new String[] {"?", "none", "By", "TO"}) {
        faulty("play 0 " + none + " 0;", 1, 7);
        faulty("patch 0 " + none + " 0;", 1, 8);
        faulty("forget 1 " + none + " 0;", 1, 9);
      }
      faulty("?", 1, 0);
      faulty("child?;", 1, 5);
      faulty("wears foo;", 1, 6);
      faulty("endless;", 1, 0);
      String[] never = {"key", "who", "heard", "place", "wear", "digits", "holes", "if", "then", "else", "end", "or", "and",
          "not", "to", "of", "by", "7", "<=", ">=", "<", ">", "=", "#", "+", "-", "*", "/", "(", ")", ",", ";"};
      for (String token : never) {
        faulty(token, 1, 0);
        faulty("child;" + token, 1, 6);
        if (!token.equals(";")) faulty("child " + token + ";", 1, 6);
      }
      String[] noOnes = {"blurs", "learns", "wears", "child", "play", "patch", "forget", "then", "else", "end", "or", "and",
          "not", "to", "of", "by", "<=", ">=", "<", ">", "=", "#", "+", "*", "/", ")", ",", ";"};
      for (String token : noOnes) faulty("blurs " + token, 1, 6);
    });
  }

  private static void faultyNumbers() {
    says("2 a NUMBER that isn't one of those told (above 9999", () -> {
      fine("wears 9999;");
      fine("wears 009999;");
      faulty("wears 10000;", 2, 6);
      faulty("wears 99999;", 2, 6);
      // Such as would be small again if their upper digits or bits were lost.
      for (String number : new String[] {"65536", "2147483648", "4294967296", "4294967297", "18446744073709551616", "1" + times(60, "0")}) {
        faulty("wears " + number + ";", 2, 6);
        faulty("roll " + number + ";", 2, 5);
        faulty("sunday " + number + ";", 2, 7);
        faulty("play " + number + " to 0;", 2, 5);
      }
    });
    says("KEYS of a roll 0 .. 5", () -> {
      for (int key = 0; key <= 5; key++) fine("roll " + key + "," + key + ";");
      for (int key : new int[] {6, 10, 9999, 10000}) {
        faulty("roll " + key + ";", 2, 5);
        faulty("roll 1," + key + ";", 2, 7);
      }
    });
    says("of forget 1 .. 5", () -> {
      for (int key = 1; key <= 5; key++) fine("forget " + key + " by 0;");
      for (int key : new int[] {0, 6, 10000}) faulty("forget " + key + " by 0;", 2, 7);
    });
    says("ROLLS 0 .. 4", () -> {
      for (int roll = 0; roll <= 4; roll++) fine("play " + roll + " to 0;patch 0 of " + roll + ";");
      for (int roll : new int[] {5, 10000}) {
        faulty("play " + roll + " to 0;", 2, 5);
        faulty("patch 0 of " + roll + ";", 2, 11);
      }
    });
    says("CHILDREN 0 .. 3", () -> {
      for (int child = 0; child <= 3; child++) fine("play 0 to " + child + ";forget 1 by " + child + ";");
      for (int child : new int[] {4, 10000}) {
        faulty("play 0 to " + child + ";", 2, 10);
        faulty("forget 1 by " + child + ";", 2, 12);
      }
    });
    says("PLACES 0 .. 15", () -> {
      for (int at = 0; at <= 15; at++) fine("patch " + at + " of 0;");
      for (int at : new int[] {16, 17, 10000}) faulty("patch " + at + " of 0;", 2, 6);
    });
    says("of sunday 1 .. 60)", () -> {
      for (int n = 1; n <= 60; n++) fine("sunday " + n + ";");
      for (int n : new int[] {0, 61, 10000}) faulty("sunday " + n + ";", 2, 7);
    });
  }

  private static void faultyLaws() {
    says("3 the 9th of ( not digits holes if and - (of one ONE) that are open around one another (at it)", () -> {
      String[] opens = {"(", "-", "digits ", "holes "};
      for (String open : opens) {
        String close = open.equals("(") ? times(8, ")") : "";
        fine("wears " + times(8, open) + "1" + close + ";");
        faulty("wears " + times(9, open) + "1" + close + ";", 3, 6 + 8 * open.length());
      }
      fine("wears if " + times(7, "not ") + "1=1 then 1 else 2 end;");
      faulty("wears if " + times(8, "not ") + "1=1 then 1 else 2 end;", 3, 9 + 7 * 4);
      String ifs = "if 1=1 then ";
      fine("wears " + times(8, ifs) + "1" + times(8, " else 2 end") + ";");
      faulty("wears " + times(9, ifs), 3, 6 + 8 * ifs.length());
      // A sign between two is none of them, and what has closed isn't open any more.
      fine("wears 1" + times(9, "-1") + times(9, "+(1)") + times(9, "*-1") + ";");
      fine("wears " + times(8, "(") + "1-1-1" + times(8, ")") + "-" + times(8, "(") + "1" + times(8, ")") + ";");
      fine("wears if not not 1=1 and not not 1=1 then -----1+-1 else 2 end;");
      // An if is open up to its end, a not around all of its ask.
      for (String part : new String[] {"if ", "if 1=", "if 1=1 and ", "if 1=1 or ", "if 1=1 then ", "if 1=1 then 1 else "}) {
        fine("wears 1;blurs " + part + times(7, "(") + "1" + times(7, ")") + rest(part) + ";");
        faulty("wears " + part + times(8, "("), 3, 6 + part.length() + 7);
      }
      faulty("wears if not (((((((1", 3, 6 + 7 + 6);
      faulty("wears if not 1<(((((((1", 3, 6 + 9 + 6);
      faulty("wears (-digits holes if not -(-1", 3, 6 + 24);
    });
    says("4 blurs, learns, wears for the second time (at it)", () -> {
      for (String law : new String[] {"blurs", "learns", "wears"}) {
        faulty(law + " 1;" + law, 4, law.length() + 3);
        faulty(law + " 1; child; " + law + " 1;", 4, law.length() + 11);
      }
    });
    says("5 a NAME that isn't of that CLAUSE (at it)", () -> {
      for (String name : new String[] {"roll", "place", "wear"}) faulty("learns 1+(2*" + name + ");", 5, 12);
      for (String name : new String[] {"who", "heard"}) faulty("wears 1-digits " + name + ";", 5, 15);
      // What a clause ahead allows doesn't count for this one.
      faulty("blurs who;wears who;", 5, 16);
      faulty("blurs wear;learns wear;", 5, 18);
      fine("learns who;wears wear;blurs who+wear;");
    });
  }

  private static String rest(String part) {
    switch (part) {
      case "if 1=": return " then 1 else 2 end";
      case "if 1=1 then ": return " else 2 end";
      case "if 1=1 then 1 else ": return " end";
      default: return "=1 then 1 else 2 end";
    }
  }

  private static void tooMany() {
    says("6 the 25th CLAUSE (at its first TOKEN)", () -> {
      fine(times(24, "child;") + " \n");
      faulty(times(24, "child;") + " \n child", 6, 147);
      for (String clause : new String[] {"roll 6;", "play 5 to 0;", "patch 0 to 0;", "forget 0 by 0;", "sunday 0;", "wears roll;"}) {
        faulty(times(24, "child;") + clause, 6, 144);
      }
    });
    says("7 the 17th KEY of a roll (at it)", () -> {
      fine("roll " + ONES + ";");
      fine("roll " + ONES + ";roll " + ONES + ";");
      faulty("roll " + ONES + ",1;", 7, 37);
      faulty("roll " + ONES + ", 0", 7, 38);
      faulty("roll " + ONES + ",1,1;", 7, 37);
      faulty("roll " + ONES + ",;", 1, 37);
    });
  }

  private static void ruling() {
    says("THE TEXT (told; at first none) rules", () -> {
      PianolaRolls p = with(1, "1");
      due("at first", p.about(3), NONE);
      read(p, "wears 2;");
      read(p, "wears 3;");
      due("read, but not told", p.at(0, 0, 2), 1);
      p.by(0);
      due("the first", p.at(0, 0, 2), 2);
      p.by(1);
      due("the second", p.at(0, 0, 2), 3);
      p.by(NONE);
      due("none", p.at(0, 0, 2), 1);
    });
    says("blurs (the odds of 10): 0 at least, 10 at most; without: WEAR by 2, cut", () -> {
      PianolaRolls p = with(1, "1");
      for (int wear = 0; wear <= 9; wear++) {
        p.worn(0, 0, wear);
        due("without, by wear " + wear, p.law(0, 0, 0, true), wear / 2);
      }
      ruled(p, "wears 2;");
      due("by a text without it", p.law(0, 0, 0, true), 4);
      int[] worths = {-1000000, -1, 0, 1, 9, 10, 11, 1000000};
      for (int worth : worths) due("blurs " + worth, ruledBy("blurs ", worth).law(0, 0, 0, true), Math.max(0, Math.min(10, worth)));
    });
    says("learns: 0 at least, 99 at most; without: 3", () -> {
      PianolaRolls p = with(1, "1");
      due("without", p.law(0, 0, 0, false), 3);
      ruled(p, "wears 2;");
      due("by a text without it", p.law(0, 0, 0, false), 3);
      int[] worths = {-1000000, -1, 0, 1, 98, 99, 100, 1000000};
      for (int worth : worths) due("learns " + worth, ruledBy("learns ", worth).law(0, 0, 0, false), Math.max(0, Math.min(99, worth)));
    });
    says("wears: 0 at least, 9 at most; without: 1", () -> {
      PianolaRolls p = with(1, "1");
      due("without", p.at(0, 0, 2), 1);
      ruled(p, "blurs 2;");
      due("by a text without it", p.at(0, 0, 2), 1);
      int[] worths = {-1000000, -1, 0, 1, 8, 9, 10, 1000000};
      for (int worth : worths) {
        PianolaRolls q = ruledBy("wears ", worth);
        due("wears " + worth, q.at(0, 0, 2), Math.max(0, Math.min(9, worth)));
        q.play(0, 0);
        due("so worn", q.at(0, 0, 1), Math.max(0, Math.min(9, worth)));
      }
    });
  }

  private static PianolaRolls ruledBy(String law, int worth) {
    String sum = Math.abs(worth) == 1000000 ? (worth < 0 ? "-" : "") + "1000*1000" : Integer.toString(worth);
    return ruled(with(1, "1"), law + sum + ";");
  }

  private static void byText() {
    says("PLAYED by a TEXT: its CLAUSES but laws, in their order, as by hand", () -> {
      PianolaRolls p = with(1, "12");
      read(p, "wears 5;play 0 to 0;blurs 10;patch 0 of 0;learns 0;forget 1 by 0;sunday 2;child;roll 3,0;");
      due("played", p.played(0), NONE);
      PianolaRolls q = with(1, "12");
      read(q, "wears 5;play 0 to 0;blurs 10;patch 0 of 0;learns 0;forget 1 by 0;sunday 2;child;roll 3,0;");
      q.play(0, 0);
      q.patch(0, 0);
      q.forget(0, 1);
      q.sunday(2);
      q.child();
      cut(q, "30");
      due("as by hand", state(p), state(q));
      for (int i = 4; i >= 0; i--) due("each is a step", p.undo(), i);
      due("empty: all is done", emptyText().played(0), NONE);
    });
    says("one that can't be ends it", () -> {
      String[] never = {"play 1 to 0;", "play 0 to 1;", "patch 0 of 0;", "patch 2 of 0;", "patch 0 of 1;", "forget 1 by 0;",
          "forget 1 by 1;"};
      for (String clause : never) {
        PianolaRolls p = with(1, "12");
        read(p, clause + "child;");
        due("played '" + clause + "'", p.played(0), 0);
        due("no more is done", p.is(3), 1);
        due("no step", p.about(4), 0);
      }
      PianolaRolls full = with(4, "1", "1", "1", "1", "1");
      read(full, "roll 1;sunday 1;");
      due("a sixth roll", full.played(0), 0);
      read(full, "child;sunday 1;");
      due("a fifth child", full.played(1), 0);
      due("no more is done", full.is(0), 0);
    });
    says("(of so many SUNDAYS those that can pass do)", () -> {
      PianolaRolls p = new PianolaRolls();
      read(p, "sunday 60;child;");
      passTo(p, 9940);
      due("not all of 60", p.played(0), 0);
      due("59 do", p.is(0), 9999);
      due("no more is done", p.is(3), 0);
      for (int i = 0; i < 30; i++) p.undo();
      due("each was a step", p.is(0), 9969);
      read(p, "sunday 30;child;");
      due("all of 30", p.played(1), NONE);
      due("all do", p.is(0), 9999);
      due("and more", p.is(3), 1);
      due("none can pass", p.played(1), 0);
    });
    says("its number among all CLAUSES (from 0)", () -> {
      PianolaRolls p = with(1, "1");
      read(p, "patch 0 of 0;");
      due("the first", p.played(0), 0);
      read(p, "wears 1;learns 1;patch 0 of 0;blurs 1;");
      due("laws are counted", p.played(1), 2);
      read(p, times(23, "sunday 1;") + "patch 1 of 0;");
      due("the 24th", p.played(2), 23);
    });
    says("what was done stays", () -> {
      PianolaRolls p = with(1, "1");
      read(p, "child;sunday 1;roll 5;play 1 to 1;play 4 to 0;sunday 1;");
      due("played", p.played(0), 4);
      due("SUNDAY", p.is(0), 1);
      due("children", p.is(3), 2);
      due("rolls", p.is(2), 2);
      due("heard", p.heard(1, 5), 1);
      due("steps", p.about(4), 2);
    });
  }

  private static PianolaRolls emptyText() {
    PianolaRolls p = new PianolaRolls();
    read(p, "");
    return p;
  }
}
