/** Promises 8 to 10: text, rules as far as the grammar goes, name. */
public final class TextTest {
  private static final Checks CHECKS = new Checks();

  private static void due(String told, long got, long want) {
    CHECKS.due(told, got, want);
  }

  public static void main(String[] args) {
    text();
    taking();
    words();
    fine();
    faults();
    kept();
    tooMany();
    names();
    CHECKS.end();
  }

  private static void text() {
    CourseHouse x = new CourseHouse();
    for (int i = 1; i <= 30; i++) {
      due("text " + i, x.text(0, 0, 0, 0, 0), 20 * i);
    }
    due("text 31", x.text(0, 0, 0, 0, 0), -6);
    due("length", x.count(4), 600);
    due("ROOM", x.count(16), 1);
    due("bytes 0 are no words", x.rules(600, false), -1000);
    // The highest byte first: "a = " is 0x61203d20.
    due("in order", x.text(0x61203d20, 0x313b2020, -1, 0x80808080, 0), 20);
    due("only the first n", x.rules(6, false), 1);
    x.text(0x20202020, 0x61203d20, 0x31202b20, 0x32203b20, 0x20202020);
    due("ints in order", x.rules(20, false), 1);
    x.pupil();
    due("value", x.value(0, 0, 0), 3);
    x.text(0x61203d20, 0x313b2020, -1, 0x80808080, 0);
    due("high bytes are no words", x.rules(20, false), -1008);
    String full = "a=1" + Checks.times(298, "+1") + ";";
    due("a text of 600 bytes", Checks.rules(x, full), 1);
    due("its value", x.value(0, 0, 0), 299);
    due("600 bytes that end too early", Checks.rules(x, "a=1" + Checks.times(298, "+1") + " "), -1600);
  }

  /** Which texts are taken and what becomes of the text. */
  private static void taking() {
    CourseHouse x = Checks.withPupils(1);
    due("below", x.rules(-1, false), -4);
    due("room", x.rules(1, true), -6);
    due("nothing", x.rules(0, true), -1000);
    Checks.feed(x, "a = 1; b = 2;");
    due("below keeps the text", x.rules(Integer.MIN_VALUE, false), -4);
    due("room keeps the text", x.rules(21, false), -6);
    due("length", x.count(4), 20);
    due("first six", x.rules(6, false), 1);
    due("then empty", x.count(4), 0);
    due("one rule", x.count(2), 1);
    Checks.feed(x, "a = 1; b = ;");
    due("fault", x.rules(12, false), -1011);
    due("empty after a fault", x.count(4), 0);
    due("one rule still", x.count(2), 1);
    Checks.feed(x, "a = 1;");
    Checks.feed(x, "b = 3;");
    due("two pieces", x.rules(40, false), 2);
    due("second value", x.value(0, 1, 0), 3);
    Checks.feed(x, "a = x;");
    due("hole", x.rules(6, false), -2000);
    due("empty after a hole", x.count(4), 0);
    Checks.feed(x, "a = 1; a = 1;");
    due("twice", x.rules(13, false), -3001);
    due("empty after twice", x.count(4), 0);
    Checks.feed(x, "a = a;");
    due("ring", x.rules(6, false), -5);
    due("empty after a ring", x.count(4), 0);
    x.work(0, 1, 0, 0);
    x.need(0, 1, 1);
    Checks.feed(x, "a = 1;");
    due("needed", x.rules(6, false), -3);
    due("empty after needed", x.count(4), 0);
    Checks.feed(x, "a = 0; b = 0;");
    due("strict", x.rules(13, true), -7);
    due("empty after strict", x.count(4), 0);
    due("rules stay", x.value(0, 1, 0), 3);
    due("texts refused", x.count(18), 4);
    due("BELOW", x.count(14), 2);
    due("ROOM", x.count(16), 2);
  }

  /** A text of one rule and the fault that is due, or its number of rules. */
  private static void reads(String text, int want) {
    CourseHouse x = Checks.withPupils(1);
    for (int i = 0; i < 10; i++) {
      x.work(0, 20, 0, 0);
    }
    due("\"" + text + "\"", Checks.rules(x, text), want);
    due("refused: \"" + text + "\"", x.count(18), want < 0 ? 1 : 0);
    due("rules: \"" + text + "\"", x.count(2), Math.max(want, 0));
  }

  private static void words() {
    reads("a=1;", 1);
    reads("   a   =   1   ;   ", 1);
    reads("a=best1(wa);", 1);
    reads("a=best 1(wa);", 1);
    reads("a=b est 1(wa);", -1004);
    reads("abcd=9999;", 1);
    reads("abcde=9999;", -1000);
    reads("abcd=12345;", -1005);
    reads("abcd=123 45;", -1009);
    reads("a b=1;", -1002);
    reads("a=wb;", 1);
    reads("a=0000;", 1);
    reads("a=1 /0001;", 1);
    reads("a=drop9999(wa);", 1);
    reads("a=drop12345(wa);", -1006);
    reads("a=abcd12(wa);", -1006);
    reads("a=wa\n;", -1004);
    reads("a=wa\t;", -1004);
    reads("a=WA;", -1002);
    reads("A=wa;", -1000);
    reads("a=wa.;", -1004);
    reads("a=wa`;", -1004);
    reads("a=wa{;", -1004);
    reads("a=wa:;", -1004);
    reads("a=#", -1002);
    reads("#", -1000);
    reads(" #", -1001);
    reads("a=1;#", -1004);
    reads("a=1;bcdef", -1004);
    reads("a=1 2#;", -1004);
    reads("a=1;b=2", -1007);
    reads("\u00e1=1;", -1000);
  }

  private static void fine() {
    reads("a = wa + wb - wc * wd / 3;", 1);
    reads("a = (wa + wb) * (wc - wd) / 3 / 4;", 1);
    reads("a = max(wa); b = min(wa, wb); c = mean(wa, wb, wc);", 3);
    reads("a = best 2 (wa, wb); b = drop 0 (wa + 1, 2);", 2);
    reads("a = cap(wa, 3); b = pass(wa + 1, 0);", 2);
    reads("a = b; b = c; c = 1;", 3);
    reads("a = max(min(mean(best 1 (drop 1 (cap(pass(wa, 1), 2))))));", 1);
    reads("wk = 1; w = wk; waa = w; ma = waa; maxx = ma; x = maxx;", 6);
    reads("a = 3 / 9999;", 1);
  }

  private static void faults() {
    reads("", -1000);
    reads("   ", -1003);
    reads("a", -1001);
    reads("a ", -1002);
    reads("a=", -1002);
    reads("a=1", -1003);
    reads("a=1;;", -1004);
    reads("=1;", -1000);
    reads("1=1;", -1000);
    reads("a-1;", -1001);
    reads("a=;", -1002);
    reads("a=+1;", -1002);
    reads("a=-1;", -1002);
    reads("a=1+;", -1004);
    reads("a=1--1;", -1004);
    reads("a=1*;", -1004);
    reads("a=1**1;", -1004);
    reads("a=1/wa;", -1004);
    reads("a=1/(2);", -1004);
    reads("a=1/;", -1004);
    reads("a=1/", -1004);
    reads("a=1/0;", -1004);
    reads("a=1/ 00;", -1005);
    reads("a=1/2/0000;", -1006);
    reads("a=1/2*0;", 1);
    reads("a=1=1;", -1003);
    reads("a=();", -1003);
    reads("a=(1;", -1004);
    reads("a=(1,2);", -1004);
    reads("a=1);", -1003);
    reads("a=1,2;", -1003);
    reads("a=wa wb;", -1005);
    reads("a=wa(1);", -1004);
    reads("a=wa 1;", -1005);
    reads("a=1 wa;", -1004);
    reads("a=(1)(2);", -1005);
    reads("a=max;", -1005);
    reads("a=max wa;", -1006);
    reads("a=max 1 (wa);", -1006);
    reads("a=max();", -1006);
    reads("a=max(1,);", -1008);
    reads("a=max(,1);", -1006);
    reads("a=max(1 2);", -1008);
    reads("a=max(1;", -1007);
    reads("a=max(1", -1007);
    reads("a=best(1);", -1006);
    reads("a=best wa(1);", -1007);
    reads("a=best 1 1;", -1009);
    reads("a=best 1;", -1008);
    reads("a=drop (1);", -1007);
    reads("a=cap(1);", -1007);
    reads("a=cap(1,wa);", -1008);
    reads("a=cap(1,(2));", -1008);
    reads("a=cap(1,2,3);", -1009);
    reads("a=cap(1,2+3);", -1009);
    reads("a=pass(1,2;", -1010);
    reads("a=pass 1(1,2);", -1007);
    reads("a=pass(1,);", -1009);
    reads("a=1;b", -1005);
    reads("a=1; 1", -1005);
  }

  /** Names that no rule can have. */
  private static void kept() {
    String[] kept = {"max", "min", "mean", "best", "drop", "cap", "pass",
        "wa", "wb", "wc", "wd", "we", "wf", "wg", "wh", "wi", "wj"};
    for (String one : kept) {
      reads(one + "=1;", -1000);
      reads("a=1;" + one + "=1;", -1004);
      due(one + " of no work", Checks.rules(new CourseHouse(), one + "=1;"), -1000);
    }
    for (String one : new String[] {"max", "min", "mean", "best", "drop", "cap", "pass"}) {
      reads("a=" + one + "+1;", -1002 - one.length());
    }
    for (String free : new String[] {"wk", "wz", "aw", "w", "maxi", "ma", "caps", "pas", "dro", "bes"}) {
      reads(free + "=1;", 1);
    }
  }

  /** Thirteenth rules, eleventh sums, ninth parentheses. */
  private static void tooMany() {
    StringBuilder twelve = new StringBuilder();
    for (int i = 0; i < 12; i++) {
      twelve.append((char) ('a' + i)).append("=1;");
    }
    reads(twelve.toString(), 12);
    reads(twelve + "  ", 12);
    reads(twelve + " m=1;", -1049);
    reads(twelve + "m", -1048);
    reads(twelve + "+", -1048);
    reads(twelve + "a=1;", -1048);
    reads("a=max(1" + Checks.times(9, ",1") + ");", 1);
    reads("a=max(1" + Checks.times(9, ",1") + " ,1);", -1026);
    reads("a=drop 1 (1" + Checks.times(10, ",1") + ");", -1029);
    reads("a=mean(1" + Checks.times(9, ",1") + ",", -1026);
    reads("a=max(1" + Checks.times(9, ",(1)") + ");", 1);
    reads("a=max(max(1" + Checks.times(9, ",1") + ")" + Checks.times(9, ",1") + ");", 1);
    reads("a=max(max(1" + Checks.times(9, ",1") + ")" + Checks.times(10, ",1") + ");", -1048);
    reads("a=" + Checks.times(8, "(") + "1" + Checks.times(8, ")") + ";", 1);
    reads("a=" + Checks.times(9, "(") + "1" + Checks.times(9, ")") + ";", -1010);
    reads("a=" + Checks.times(8, "(1+") + "(1)" + Checks.times(8, ")") + ";", -1026);
    reads("a=" + Checks.times(8, "max(") + "1" + Checks.times(8, ")") + ";", 1);
    reads("a=" + Checks.times(8, "max(") + "max(1)" + Checks.times(8, ")") + ";", -1037);
    reads("a=" + Checks.times(8, "max(") + "best 1 (1)" + Checks.times(8, ")") + ";", -1041);
    reads("a=" + Checks.times(8, "max(") + "cap 1" + Checks.times(8, ")") + ";", -1038);
    reads("a=" + Checks.times(8, "cap(") + "1" + Checks.times(8, ",1)") + ";", 1);
    reads("a=" + Checks.times(7, "(") + "pass((1),1)" + Checks.times(7, ")") + ";", -1014);
    reads("a=" + Checks.times(20, "((((((((1))))))))+") + "1;", 1);
    reads("a=max(1,((((((((1)))))))));", -1015);
    reads("a=max(1,(((((((1))))))));", 1);
    reads("a=max(1,2,max(1,2,max(1,2,max(1,2,max(1,2,max(1,2,max(1,2,max(1,2))))))));", 1);
    reads("a=max(1,2,max(1,2,max(1,2,max(1,2,max(1,2,max(1,2,max(1,2,max(1,(2)))))))));", -1064);
  }

  private static void names() {
    CourseHouse x = new CourseHouse();
    due("no rule", x.name(0), -1);
    Checks.rules(x, "a=1;z=1;aa=1;az=1;za=1;abc=1;zzzz=1;wk=1;mid=1;");
    int[] want = {1, 26, 28, 53, 26 * 27 + 1, (1 * 27 + 2) * 27 + 3,
        ((26 * 27 + 26) * 27 + 26) * 27 + 26, 23 * 27 + 11, 9724};
    for (int i = 0; i < want.length; i++) {
      due("name " + i, x.name(i), want[i]);
    }
    due("name 9", x.name(9), -1);
    due("name -1", x.name(-1), -1);
    due("NOBODY", x.count(11), 3);
    Checks.rules(x, "b=1;");
    due("the new one's", x.name(0), 2);
    due("the old one's is gone", x.name(1), -1);
  }
}
