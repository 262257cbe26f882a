/** Promise 19: markOf. */
public final class MarksTest {
  private static final Checks CHECKS = new Checks();

  private static void due(String told, long got, long want) {
    CHECKS.due(told, got, want);
  }

  public static void main(String[] args) {
    refused();
    without();
    days();
    lessened();
    excused();
    CHECKS.end();
  }

  private static void isMark(CourseHouse x, String told, int upper, int lower, int state, int days, int hands) {
    int[] want = {upper, lower, state, days, hands};
    for (int what = 0; what < 5; what++) {
      due(told + ", " + what, x.markOf(0, 0, what), want[what]);
    }
  }

  private static CourseHouse with(int kind, int most, int due, int less) {
    CourseHouse x = Checks.withPupils(2);
    x.work(kind, most, due, less);
    return x;
  }

  private static void refused() {
    CourseHouse x = with(0, 10, 0, 0);
    due("no pupil", x.markOf(2, 0, 9), -1);
    due("no pupil -1", x.markOf(-1, 0, 0), -1);
    due("no work", x.markOf(0, 1, 9), -1);
    due("no work -1", x.markOf(0, -1, 0), -1);
    due("what 5", x.markOf(0, 0, 5), -2);
    due("what -1", x.markOf(0, 0, -1), -2);
    due("NOBODY", x.count(11), 4);
    due("OTHER", x.count(12), 2);
  }

  private static void without() {
    for (int kind = 0; kind < 4; kind++) {
      CourseHouse x = with(kind, 10, 50, 10);
      isMark(x, "nothing, kind " + kind, 0, 1, 2, -9, 0);
      x.tick(100);
      x.hand(0, 0);
      isMark(x, "not marked, kind " + kind, 0, 1, 2, 3, 1);
    }
  }

  /** Days are cut up: what has begun counts. */
  private static void days() {
    int[][] lateDays = {{-1, 0}, {0, 0}, {1, 1}, {24, 1}, {25, 2}, {48, 2}, {49, 3}, {240, 10}};
    for (int[] one : lateDays) {
      CourseHouse x = with(0, 10, 100, 10);
      x.tick(100 + one[0]);
      x.hand(0, 0);
      x.mark(0, 0, 10);
      isMark(x, "late by " + one[0], 10 - one[1], 1, 1, one[1], 1);
    }
    CourseHouse x = with(0, 10, 0, 100);
    x.tick(100000);
    x.hand(0, 0);
    x.mark(0, 0, 10);
    isMark(x, "all too late", 0, 1, 1, 4167, 1);
    x.leave(0, 0, 1000);
    due("less 1000", x.markOf(0, 0, 3), 4125);
    CourseHouse early = with(0, 10, 100000, 100);
    early.hand(0, 0);
    early.mark(0, 0, 10);
    isMark(early, "early", 10, 1, 1, 0, 1);
  }

  private static void lessened() {
    CourseHouse x = with(0, 20, 0, 37);
    x.tick(1);
    x.hand(0, 0);
    x.mark(0, 0, 7);
    isMark(x, "7 times 63 by 100", 441, 100, 1, 1, 1);
    CourseHouse y = with(0, 20, 0, 37);
    y.tick(49);
    y.hand(0, 0);
    y.mark(0, 0, 7);
    isMark(y, "not below 0", 0, 1, 1, 3, 1);
    CourseHouse z = with(0, 20, 0, 0);
    z.tick(1000);
    z.hand(0, 0);
    z.mark(0, 0, 7);
    isMark(z, "less 0", 7, 1, 1, 42, 1);
    CourseHouse s = with(3, 20, 0, 50);
    s.tick(48);
    s.hand(0, 0);
    s.hand(1, 0);
    s.show(1, 0, 0, 7);
    isMark(s, "shown, all lost", 0, 1, 1, 2, 1);
    s.leave(0, 0, 24);
    isMark(s, "shown, half", 7, 2, 1, 1, 1);
  }

  private static void excused() {
    CourseHouse x = with(0, 10, 0, 10);
    x.excuse(0, 0, true);
    isMark(x, "excused", 0, 1, 0, -9, 0);
    x.excuse(0, 0, false);
    x.tick(24);
    x.hand(0, 0);
    x.excuse(0, 0, true);
    isMark(x, "excused, handed in", 0, 1, 0, 1, 1);
    x.mark(0, 0, 10);
    isMark(x, "excused, marked", 0, 1, 0, 1, 1);
    x.excuse(0, 0, false);
    isMark(x, "not excused", 9, 1, 1, 1, 1);
  }
}
