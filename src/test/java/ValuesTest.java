/** Promise 20: value. */
public final class ValuesTest {
  private static final Checks CHECKS = new Checks();
  private static final int OUT = 0;
  private static final int LOST = 2;

  private static void due(String told, long got, long want) {
    CHECKS.due(told, got, want);
  }

  public static void main(String[] args) {
    refused();
    sums();
    lists();
    bounds();
    out();
    lost();
    outOfProducts();
    names();
    CHECKS.end();
  }

  private static void refused() {
    CourseHouse x = Checks.withPupils(1);
    due("no rule", x.value(0, 0, 7), Checks.apart(-1));
    Checks.rules(x, "a = 1;");
    due("no pupil", x.value(1, 0, 7), Checks.apart(-1));
    due("no pupil -1", x.value(-1, 0, 0), Checks.apart(-1));
    due("no rule 1", x.value(0, 1, 0), Checks.apart(-1));
    due("no rule -1", x.value(0, -1, 0), Checks.apart(-1));
    due("what 3", x.value(0, 0, 3), Checks.apart(-2));
    due("what -1", x.value(0, 0, -1), Checks.apart(-2));
    due("told as numbers", x.value(0, 0, 3), 2000000002);
    due("NOBODY", x.count(11), 5);
    due("OTHER", x.count(12), 3);
  }

  /**
   * One pupil and the works wa: 3, wb: 4, wc: excused, wd: excused, we: 0 as not marked,
   * wf: 10, wg: 7.
   */
  private static CourseHouse house() {
    CourseHouse x = Checks.withPupils(1);
    int[] marks = {3, 4, -1, -1, -2, 10, 7};
    for (int w = 0; w < marks.length; w++) {
      x.work(0, 20, 0, 0);
      if (marks[w] >= 0) {
        x.hand(0, w);
        x.mark(0, w, marks[w]);
      } else if (marks[w] == -1) {
        x.excuse(0, w, true);
      }
    }
    return x;
  }

  private static void is(String sum, int upper, int lower) {
    is("r = " + sum + ";", 0, upper, lower, 1);
  }

  private static void isNone(String sum, int state) {
    is("r = " + sum + ";", 0, 0, 1, state);
  }

  private static void is(String text, int rule, int upper, int lower, int state) {
    CourseHouse x = house();
    CHECKS.isTrue(text + " is read", Checks.rules(x, text) > rule);
    due(text + " upper", x.value(0, rule, 0), upper);
    due(text + " lower", x.value(0, rule, 1), lower);
    due(text + " state", x.value(0, rule, 2), state);
  }

  private static void sums() {
    is("12", 12, 1);
    is("0007", 7, 1);
    is("wa", 3, 1);
    is("wa + wb * 2", 11, 1);
    is("(wa + wb) * 2", 14, 1);
    is("10 - 3 - 2", 5, 1);
    is("10 - (3 - 2)", 9, 1);
    is("wa - wb", -1, 1);
    is("wa / 6", 1, 2);
    is("wa / 6 / 5 * 4", 2, 5);
    is("1 / 2 + 1 / 3", 5, 6);
    is("1 / 2 - 1 / 3 - 1 / 6", 0, 1);
    is("1 / 3 - 1 / 2", -1, 6);
    is("(1 - 3) / 4 * (wa - wb)", 1, 2);
    is("2 * 3 / 4 * 6 / 9", 1, 1);
    is("we", 0, 1);
    is("we * 5 / 7", 0, 1);
    is("0 - wa / 9", -1, 3);
  }

  private static void lists() {
    is("max(wa)", 3, 1);
    is("max(wa, wf, wb)", 10, 1);
    is("min(wf, wa, wb)", 3, 1);
    is("max(0 - 1, 0 - 2)", -1, 1);
    is("min(0 - 1, 0 - 2, 1)", -2, 1);
    is("max(1 / 3, 3 / 8, 2 / 7)", 3, 8);
    is("min(1 / 3, 3 / 8, 2 / 7)", 2, 7);
    is("mean(wa, wb)", 7, 2);
    is("mean(wa, wb, wc, wd)", 7, 2);
    is("mean(1, 2, 3, 4, 5, 6, 7, 8, 9, 11)", 28, 5);
    is("best 2 (wa, wf, wb, wg)", 17, 1);
    is("best 0 (wa, wf)", 0, 1);
    is("best 1 (wa, wa)", 3, 1);
    is("best 9 (wa, wf)", 13, 1);
    is("best 9999 (wa, wc, wf)", 13, 1);
    is("best 2 (0 - 1, 0 - 5, 0 - 3)", -4, 1);
    is("drop 0 (wa, wf, wb)", 17, 1);
    is("drop 1 (wa, wf, wb)", 14, 1);
    is("drop 2 (wa, wf, wb)", 10, 1);
    is("drop 3 (wa, wf, wb)", 0, 1);
    is("drop 9999 (wa, wf, wb)", 0, 1);
    is("drop 1 (wa, wc, wf)", 10, 1);
    is("drop 2 (0 - 1, 0 - 5, 0 - 3)", -1, 1);
    is("drop 1 (1 / 2, 1 / 3, 1 / 4)", 5, 6);
    is("cap(wf, 9)", 9, 1);
    is("cap(wf, 10)", 10, 1);
    is("cap(wf / 3, 4)", 10, 3);
    is("cap(wf / 3, 3)", 3, 1);
    is("cap(0 - wf, 0)", -10, 1);
    is("pass(wf, 10)", 1, 1);
    is("pass(wf, 11)", 0, 1);
    is("pass(wf / 3, 3)", 1, 1);
    is("pass(wf / 3, 4)", 0, 1);
    is("pass(0 - 1, 0)", 0, 1);
    is("pass(we, 0)", 1, 1);
  }

  /** What is within bounds and what is just beyond. */
  private static void bounds() {
    is("9999 * 9999 * 10", 999800010, 1);
    is("9999 * 9999 * 10 + 1999 * 100 + 90", 1000000000, 1);
    isNone("9999 * 9999 * 10 + 1999 * 100 + 91", LOST);
    is("0 - 1000 * 1000 * 1000", -1000000000, 1);
    isNone("0 - 1000 * 1000 * 1000 - 1", LOST);
    isNone("0 - 1000 * 1000 * 1000 - 1 / 2", LOST);
    isNone("1000 * 1000 * 1000 + 1 - 1", LOST);
    is("1000 * 1000 * 1000 + (1 - 1)", 1000000000, 1);
    is("1 / 1000 / 1000 / 1000", 1, 1000000000);
    isNone("1 / 1000 / 1000 / 1000 / 2", LOST);
    is("2 / 1000 / 1000 / 1000 / 2", 1, 1000000000);
    isNone("1 / 1000 / 1000 / 1000 / 2 * 2", LOST);
    isNone("1 / 9999 / 9999 + 1 / 9998 / 9998", LOST);
    is("1 / 9999 / 9999 - 1 / 9999 / 9999", 0, 1);
    is("1000 * 1000 * 1000 * (1 / 1000 / 1000 / 1000)", 1, 1);
    isNone("1000 * 1000 * 1000 * 2 / 2", LOST);
    is("1000 * 1000 * 1000 / 2 * 2", 1000000000, 1);
    isNone("mean(1000 * 1000 * 1000, 1, 0 - 1)", LOST);
    is("mean(1000 * 1000 * 1000, 0 - 1, 1)", 1000000000, 3);
    is("best 3 (0 - 5, 1000 * 1000 * 1000, 0 - 1)", 999999994, 1);
    isNone("best 3 (0 - 5, 1000 * 1000 * 1000, 1)", LOST);
    isNone("drop 1 (0 - 5, 1000 * 1000 * 1000, 1)", LOST);
    is("drop 2 (0 - 5, 1000 * 1000 * 1000, 1)", 1000000000, 1);
    is("max(1000 * 1000 * 1000, 0 - 1000 * 1000 * 1000)", 1000000000, 1);
    is("min(1 / 1000 / 1000 / 1000, 1 / 1000 / 1000 / 999)", 1, 1000000000);
    isNone("mean(1 / 1000 / 1000 / 1000, 1 / 1000 / 1000 / 1000, 1 / 1000 / 1000 / 1000)"
        + " * (1 / 3)", LOST);
    is("mean(1 / 1000 / 1000 / 1000, 1 / 1000 / 1000 / 1000)", 1, 1000000000);
    isNone("mean(1 / 1000 / 1000 / 1000, 0)", LOST);
  }

  private static void out() {
    isNone("wc", OUT);
    isNone("wc + wd", OUT);
    isNone("wc - wd", OUT);
    is("wc + wa", 3, 1);
    is("wa + wc", 3, 1);
    is("wc - wa", -3, 1);
    is("wa - wc", 3, 1);
    is("wc - wa - wd - wb", -7, 1);
    isNone("wc * wa", OUT);
    isNone("wa * wc", OUT);
    isNone("wa * wb * wc / 3", OUT);
    isNone("wc / 2", OUT);
    isNone("0 * wc", OUT);
    is("wa * wc + wb", 4, 1);
    isNone("max(wc)", OUT);
    isNone("min(wc, wd)", OUT);
    isNone("mean(wc, wd)", OUT);
    isNone("best 1 (wc, wd)", OUT);
    isNone("best 0 (wc)", OUT);
    isNone("drop 5 (wc, wd)", OUT);
    is("max(wc, 0 - 1)", -1, 1);
    is("min(wc, wa)", 3, 1);
    isNone("cap(wc, 3)", OUT);
    isNone("pass(wc, 0)", OUT);
    is("wa + cap(wc, 3)", 3, 1);
  }

  private static void lost() {
    String lost = "(9999 * 9999 * 9999)";
    isNone(lost, LOST);
    isNone(lost + " + wc", LOST);
    isNone("wc + " + lost, LOST);
    isNone("wc - " + lost, LOST);
    isNone("wc * " + lost, LOST);
    isNone(lost + " * wc", LOST);
    isNone("0 * " + lost, LOST);
    isNone(lost + " / 9999", LOST);
    isNone("max(wa, " + lost + ")", LOST);
    isNone("min(wc, " + lost + ", 1)", LOST);
    isNone("mean(1, " + lost + ")", LOST);
    isNone("best 0 (1, " + lost + ")", LOST);
    isNone("best 1 (1, 0 - " + lost + ")", LOST);
    isNone("drop 9 (wc, " + lost + ")", LOST);
    isNone("cap(" + lost + ", 1)", LOST);
    isNone("pass(" + lost + ", 1)", LOST);
    isNone(lost + " - " + lost, LOST);
  }

  /** A product is out wherever the part that is out stands, but if a part of it is lost. */
  private static void outOfProducts() {
    String beyond = "9999 * 9999 * 9999";
    String lost = "(" + beyond + ")";
    isNone(beyond + " * wc", OUT);
    isNone("wc * " + beyond, OUT);
    isNone("9999 * 9999 * wc * 9999", OUT);
    isNone(beyond + " * wc * 2", OUT);
    isNone(beyond + " * 2 * wc * wd", OUT);
    isNone(beyond + " / 9999 * wc / 9999", OUT);
    isNone("1 / 9999 / 9999 / 9999 * wc", OUT);
    isNone(beyond + " * (wc + wd)", OUT);
    isNone(beyond + " * cap(wc, 3)", OUT);
    isNone("(" + beyond + " * wc)", OUT);
    isNone("(" + beyond + " * wc) * " + beyond, OUT);
    isNone("max(" + beyond + " * wc)", OUT);
    isNone(beyond + " * wc * " + lost, LOST);
    isNone(lost + " * wc * " + beyond, LOST);
    isNone(beyond + " * (wc + " + lost + ")", LOST);
    isNone(beyond + " * (2 * wc + 1)", LOST);
    isNone(beyond + " * we", LOST);
    isNone(beyond + " / 9999", LOST);
    isNone("1 / 9999 / 9999 / 9999 * 9999", LOST);
    isNone(beyond + " + wc", LOST);
    isNone(beyond + " - wc * 2", LOST);
    is(beyond + " * wc + 5", 5, 1);
    is("5 - " + beyond + " * wc", 5, 1);
    is("wa * wb - " + beyond + " / 3 * wc + wa / 2", 27, 2);
    is("max(" + beyond + " * wc, 2)", 2, 1);
    is("mean(" + beyond + " * wc, 2, 3)", 5, 2);
    isNone("mean(" + beyond + ", wc, 2)", LOST);
    is("a = " + beyond + " * b; b = wc;", 0, 0, 1, OUT);
    is("a = b * wc; b = " + beyond + ";", 0, 0, 1, LOST);
    is("a = b * 0; b = " + beyond + " * wc;", 0, 0, 1, OUT);
    // As many products of two parts as a text can hold.
    is("1*1" + Checks.times(148, "+1*1"), 149, 1);
    is("1/1" + Checks.times(146, "+1/1") + "+1*7", 154, 1);
  }

  private static void names() {
    is("a = b + 1; b = c * 2; c = wa;", 0, 7, 1, 1);
    is("a = b + 1; b = c * 2; c = wa;", 1, 6, 1, 1);
    is("a = b + 1; b = c * 2; c = wa;", 2, 3, 1, 1);
    is("c = wa; b = c * 2; a = b + c;", 2, 9, 1, 1);
    is("a = wc; b = a; c = b + 1;", 1, 0, 1, OUT);
    is("a = wc; b = a; c = b + 1;", 2, 1, 1, 1);
    is("a = 9999 * 9999 * 9999; b = max(a, 1);", 1, 0, 1, LOST);
    // Each rule names the next one many times: it must not be reckoned as often.
    StringBuilder deep = new StringBuilder();
    for (char c = 'a'; c < 'l'; c++) {
      deep.append(c).append("=max(");
      for (int i = 0; i < 9; i++) {
        deep.append((char) (c + 1)).append(',');
      }
      deep.append((char) (c + 1)).append(");");
    }
    deep.append("l=wf;");
    is(deep.toString(), 0, 10, 1, 1);
    CourseHouse shown = Checks.withPupils(1);
    shown.work(3, 9, 0, 0);
    Checks.rules(shown, "a = wa + 4;");
    due("a shown work without marks is 0", shown.value(0, 0, 0), 4);
    CourseHouse many = Checks.withPupils(1);
    for (int i = 0; i < 12; i++) {
      Checks.rules(many, "a=" + i + Checks.times(180, "+1") + ";");
      due("long rules again and again", many.value(0, 0, 0), i + 180);
    }
    CourseHouse x = Checks.withPupils(2);
    x.work(0, 9, 0, 0);
    Checks.rules(x, "a = wa;");
    x.hand(1, 0);
    x.mark(1, 0, 8);
    due("each pupil's own", x.value(0, 0, 0), 0);
    due("the other's own", x.value(1, 0, 0), 8);
  }
}
