/** Promises 21 and 22: range, least. */
public final class RangeTest {
  private static final Checks CHECKS = new Checks();

  private static void due(String told, long got, long want) {
    CHECKS.due(told, got, want);
  }

  public static void main(String[] args) {
    refused();
    without();
    withMinus();
    lateWorks();
    lostEnds();
    least();
    refusedLeast();
    CHECKS.end();
  }

  private static void isRange(CourseHouse x, String text, int up, int low, int up2, int low2, int open) {
    CHECKS.isTrue(text, Checks.rules(x, text) > 0);
    int[] want = {up, low, up2, low2, open};
    for (int what = 0; what < 5; what++) {
      due(text + " " + what, x.range(0, 0, what), want[what]);
    }
  }

  private static void isNone(CourseHouse x, String text, int open) {
    CHECKS.isTrue(text, Checks.rules(x, text) > 0);
    for (int what = 0; what < 4; what++) {
      due(text + " " + what, x.range(0, 0, what), Checks.apart(-3));
    }
    due(text + " open", x.range(0, 0, 4), open);
  }

  /** One pupil and five works of most 10, 6, 4, 3 and 2. */
  private static CourseHouse house() {
    CourseHouse x = Checks.withPupils(1);
    int[] mosts = {10, 6, 4, 3, 2};
    for (int most : mosts) {
      x.work(0, most, 0, 10);
    }
    return x;
  }

  private static void refused() {
    CourseHouse x = house();
    due("no rule", x.range(0, 0, 9), Checks.apart(-1));
    Checks.rules(x, "a = wa - wb - wc - wd;");
    due("no pupil", x.range(1, 0, 9), Checks.apart(-1));
    due("no pupil -1", x.range(-1, 0, 0), Checks.apart(-1));
    due("no rule 1", x.range(0, 1, 0), Checks.apart(-1));
    due("no rule -1", x.range(0, -1, 0), Checks.apart(-1));
    due("what 5", x.range(0, 0, 5), Checks.apart(-2));
    due("what -1", x.range(0, 0, -1), Checks.apart(-2));
    due("four with -", x.range(0, 0, 3), Checks.apart(-3));
    due("but how many", x.range(0, 0, 4), 4);
    due("NOBODY", x.count(11), 5);
    due("OTHER", x.count(12), 2);
    due("STATE", x.count(13), 1);
  }

  private static void without() {
    CourseHouse x = house();
    isRange(x, "a = wa + wb / 4;", 0, 1, 23, 2, 2);
    isRange(x, "a = wa + wb + wc + wd + we;", 0, 1, 25, 1, 5);
    isRange(x, "a = max(wa, 3);", 3, 1, 10, 1, 1);
    isRange(x, "a = 7;", 7, 1, 7, 1, 0);
    isRange(x, "a = b + 1; b = mean(wc, wd);", 1, 1, 9, 2, 2);
    isRange(x, "a = pass(wa, 4) * drop 1 (wb, wc, wd);", 0, 1, 10, 1, 4);
    x.excuse(0, 1, true);
    isRange(x, "a = mean(wa, wb);", 0, 1, 10, 1, 1);
    x.hand(0, 0);
    isRange(x, "a = mean(wa, wb, wc);", 0, 1, 7, 1, 2);
    x.mark(0, 0, 4);
    isRange(x, "a = mean(wa, wb, wc);", 2, 1, 4, 1, 1);
    isNone(x, "a = wb;", 0);
    isNone(x, "a = 9999 * 9999 * 9999;", 0);
    isRange(x, "a = wb + wa; b = wc;", 4, 1, 4, 1, 0);
  }

  private static void withMinus() {
    CourseHouse x = house();
    isRange(x, "a = wa - wb;", -6, 1, 10, 1, 2);
    isRange(x, "a = wa - wb * wc;", -24, 1, 10, 1, 3);
    isRange(x, "a = (wa - 5) * (wa - 5);", 0, 1, 25, 1, 1);
    isRange(x, "a = (wa - 3) * (wb - 3) * (wc - 2);", -42, 1, 42, 1, 3);
    isRange(x, "a = wd * (3 - wd);", 0, 1, 2, 1, 1);
    isRange(x, "a = max((wc - 1) * (wc - 3), 0 - 1 / 2) + we / 2;", -1, 2, 4, 1, 2);
    isRange(x, "a = 3 - 5;", -2, 1, -2, 1, 0);
    isNone(x, "a = wa - wb - wc - wd;", 4);
    // The - stands in another rule, and so all rules are tried out.
    isRange(x, "a = wa * wb * wc; b = 1 - 1;", 0, 1, 240, 1, 3);
    isNone(x, "a = wa + wb + wc + wd; b = 1 - 1;", 4);
    Checks.rules(x, "a = wa - 4; b = a * a; c = b + 1;");
    due("by the first rule: least", x.range(0, 2, 0), 1);
    due("by the first rule: greatest", x.range(0, 2, 2), 37);
    x.excuse(0, 0, true);
    isRange(x, "a = wa - wb - wc - wd;", -13, 1, 0, 1, 3);
    isRange(x, "a = b - c; b = wb; c = max(wc, wd);", -4, 1, 6, 1, 3);
    isNone(x, "a = wa; b = 1 - 1;", 0);
    isNone(x, "a = 9999 * 9999 * 9999 - 1;", 0);
    x.excuse(0, 0, false);
    x.hand(0, 0);
    x.mark(0, 0, 9);
    isRange(x, "a = wa - wb - wc - wd;", -4, 1, 9, 1, 3);
    // What is hung on by a need alone counts, but changes no value.
    CourseHouse y = house();
    Checks.rules(y, "a = wa - 1; b = wb + wc + wd;");
    y.need(0, 1, 1);
    due("hangs on four", y.range(0, 0, 4), 4);
    due("four", y.range(0, 0, 0), Checks.apart(-3));
    y.excuse(0, 3, true);
    due("hangs on three", y.range(0, 0, 4), 3);
    due("three: least", y.range(0, 0, 0), -1);
    due("three: greatest", y.range(0, 0, 2), 9);
  }

  /** A range is as if there were no days, whenever it is. */
  private static void lateWorks() {
    CourseHouse x = house();
    x.tick(100);
    x.hand(0, 0);
    isRange(x, "a = wa;", 0, 1, 10, 1, 1);
    isRange(x, "a = 0 - wa;", -10, 1, 0, 1, 1);
    x.mark(0, 0, 10);
    isRange(x, "a = wa + wb;", 5, 1, 11, 1, 1);
    Checks.rules(x, "a = wb; b = wa;");
    x.need(1, 1, 9999);
    due("not open", x.opens(0, 1), 0);
    isRange(x, "a = wb; b = wa;", 0, 1, 6, 1, 1);
    CourseHouse shown = Checks.withPupils(2);
    shown.work(3, 9, 0, 0);
    shown.work(2, 8, 0, 0);
    shown.hand(0, 0);
    shown.hand(1, 0);
    shown.hand(0, 1);
    isRange(shown, "a = wa + wb;", 0, 1, 17, 1, 2);
    shown.show(1, 0, 0, 5);
    isRange(shown, "a = wa + wb;", 5, 1, 13, 1, 1);
    shown.mark(0, 1, 0);
    isRange(shown, "a = wa + wb;", 5, 1, 5, 1, 0);
    shown.hand(0, 1);
    isRange(shown, "a = wa + wb;", 5, 1, 5, 1, 0);
  }

  private static void lostEnds() {
    CourseHouse x = house();
    // 10 to the ninth is within bounds, 10 times as much is not.
    isRange(x, "a = 1000 * 1000 * 1000 * wa;", 0, 1, 0, 1, 1);
    isRange(x, "a = 1000 * 1000 * 1000 * (wa - 1);", -1000000000, 1, 1000000000, 1, 1);
    isRange(x, "a = 1000 * 1000 * 100 * (wa + 1);", 100000000, 1, 100000000, 1, 1);
    isRange(x, "a = 1 / 9999 / 9999 * wd / 99 * 33;", 0, 1, 0, 1, 1);
    isRange(x, "a = 1000 * 1000 * 1000 / 3 * wa + 1 / 1000;", 1, 1000, 1, 1000, 1);
    // Terms too long with the greatest mark, whose number itself is small.
    isRange(x, "a = (1000 + 1 / 1000) * (wa * 1000 + 1 / 1000) / 10;", 1000001, 10000000, 1000001, 10000000, 1);
    // Too long with no mark, short with the greatest one.
    isRange(x, "a = (wd + 1) / 1000 / 1000 / 1000 / 4;", 1, 1000000000, 1, 1000000000, 1);
  }

  private static void least() {
    CourseHouse x = house();
    Checks.rules(x, "a = wa + wb; b = max(wa, 3); c = 5 - wa; d = 9999 * 9999 * 9999 * wa; e = wb * wc; f = 8;");
    due("none needed", x.least(0, 0, 0, 0), 0);
    due("4", x.least(0, 0, 0, 4), 4);
    due("10", x.least(0, 0, 0, 10), 10);
    due("11", x.least(0, 0, 0, 11), -9);
    due("at once", x.least(0, 1, 0, 3), 0);
    due("the next one", x.least(0, 1, 0, 4), 4);
    due("falling", x.least(0, 2, 0, 5), 0);
    due("falling: none", x.least(0, 2, 0, 6), -9);
    due("lost is none", x.least(0, 3, 0, 0), -9);
    due("others as they are", x.least(0, 4, 1, 1), -9);
    due("it does not hang on it: enough", x.least(0, 5, 2, 8), 0);
    due("it does not hang on it: not", x.least(0, 5, 2, 9), -9);
    x.tick(50);
    x.hand(0, 2);
    x.mark(0, 2, 4);
    // 4 less 30 by 100 is 14 by 5; 14 by 5 times 2 is more than 5.
    due("others as they are, marked", x.least(0, 4, 1, 5), 2);
    due("the greatest", x.least(0, 4, 1, 16), 6);
    due("beyond", x.least(0, 4, 1, 17), -9);
    x.hand(0, 1);
    due("without days", x.least(0, 0, 1, 6), 6);
    due("9999", x.least(0, 0, 1, 9999), -9);
    due("none is no refusal", x.count(11) + x.count(12) + x.count(13), 0);
    x.excuse(0, 1, true);
    due("others out", x.least(0, 0, 0, 7), 7);
    Checks.rules(x, "a = pass(wa, 7) * 3; b = (wa - 4) * (wa - 4);");
    due("the first of a pass", x.least(0, 0, 0, 1), 7);
    due("the first of a pass again", x.least(0, 0, 0, 3), 7);
    due("a hill's first", x.least(0, 1, 0, 10), 0);
    due("behind a hollow", x.least(0, 1, 0, 17), 9);
  }

  private static void refusedLeast() {
    CourseHouse x = house();
    Checks.rules(x, "a = wa;");
    due("no pupil", x.least(1, 0, 0, -1), -1);
    due("no pupil -1", x.least(-1, 0, 0, 0), -1);
    due("no rule", x.least(0, 1, 0, 0), -1);
    due("no rule -1", x.least(0, -1, 0, 0), -1);
    due("no work", x.least(0, 0, 5, 0), -1);
    due("no work -1", x.least(0, 0, -1, 10000), -1);
    due("below", x.least(0, 0, 0, -1), -4);
    due("room", x.least(0, 0, 0, 10000), -6);
    x.excuse(0, 0, true);
    due("excused ahead of below", x.least(0, 0, 0, -1), -3);
    x.excuse(0, 0, false);
    x.hand(0, 0);
    due("handed in", x.least(0, 0, 0, 1), 1);
    x.mark(0, 0, 0);
    due("marked ahead of room", x.least(0, 0, 0, 10000), -3);
    due("STATE", x.count(13), 2);
    due("NOBODY", x.count(11), 6);
  }
}
