/** Promise 23: count. */
public final class CountTest {
  private static final Checks CHECKS = new Checks();

  private static void due(String told, long got, long want) {
    CHECKS.due(told, got, want);
  }

  public static void main(String[] args) {
    others();
    counts();
    minus();
    refusals();
    CHECKS.end();
  }

  private static void others() {
    CourseHouse x = new CourseHouse();
    for (int what : new int[] {-1, 9, 10, 19, 20, -9, 100, Integer.MAX_VALUE, Integer.MIN_VALUE}) {
      due("count(" + what + ")", x.count(what), -9);
    }
    due("OTHER is not counted", x.count(12), 0);
  }

  private static void counts() {
    CourseHouse x = Checks.withPupils(3);
    x.group(1, 0);
    x.work(0, 10, 0, 0);
    x.work(1, 10, 0, 0);
    x.work(2, 10, 0, 0);
    x.work(3, 10, 0, 0);
    x.tick(7);
    x.tick(5);
    Checks.rules(x, "a = 1; b = 2;");
    Checks.feed(x, "a");
    x.hand(0, 0);
    x.hand(0, 0);
    x.hand(0, 1);
    x.hand(2, 2);
    x.hand(0, 3);
    x.hand(1, 3);
    due("hand-ins", x.count(5), 7);
    x.mark(0, 0, 1);
    x.mark(1, 1, 1);
    x.mark(2, 2, 1);
    x.show(0, 1, 3, 1);
    due("marks", x.count(6), 5);
    x.appeal(0, 0, 4);
    x.appeal(1, 1, 4);
    due("appeals", x.count(7), 2);
    due("marks still", x.count(6), 5);
    due("pupils", x.count(0), 3);
    due("works", x.count(1), 4);
    due("rules", x.count(2), 2);
    due("tick", x.count(3), 12);
    due("text", x.count(4), 20);
    for (int what = 11; what <= 18; what++) {
      due("none refused: " + what, x.count(what), 0);
    }
  }

  private static void minus() {
    CourseHouse x = new CourseHouse();
    due("no rules", x.count(8), 0);
    Checks.rules(x, "a = 1 + 2 * 3 / 4;");
    due("none", x.count(8), 0);
    Checks.rules(x, "a = 1 - 2 #;");
    due("refused", x.count(8), 0);
    Checks.rules(x, "a = max(1, (2 - 3));");
    due("one", x.count(8), 1);
    Checks.rules(x, "a = x;");
    due("one still", x.count(8), 1);
    Checks.feed(x, "a = 1; b = 1 - 2;");
    x.rules(6, false);
    due("not in the first bytes", x.count(8), 0);
    for (int i = 0; i < 4; i++) {
      Checks.rules(x, "a = 1 - 2;");
      due("there", x.count(8), 1);
      Checks.rules(x, "a = 1;");
      Checks.rules(x, "a = 1;");
      due("gone", x.count(8), 0);
    }
  }

  private static void refusals() {
    CourseHouse x = new CourseHouse();
    int[] want = new int[8];
    x.group(0, 0);
    x.work(9, 0, 0, 0);
    x.value(0, 0, 0);
    x.range(0, 0, 0);
    x.least(0, 0, 0, 0);
    want[1] = 5;
    x.pupil();
    x.work(0, 5, 0, 0);
    Checks.rules(x, "a = wa; b = 5;");
    x.value(0, 0, 3);
    x.range(0, 0, 5);
    x.markOf(0, 0, 5);
    want[2] = 3;
    x.mark(0, 0, 1);
    x.peer(0, 0, 0);
    x.show(0, 0, 0, 0);
    x.appeal(0, 0, 0);
    want[3] = 4;
    x.tick(0);
    x.rules(-1, false);
    want[4] = 2;
    x.need(0, 0, 1);
    Checks.rules(x, "a = a;");
    want[5] = 2;
    x.rules(1, false);
    want[6] = 1;
    Checks.rules(x, "b = 4;", true);
    want[7] = 1;
    Checks.rules(x, "b = c;");
    Checks.rules(x, "b = 1; b = 1;");
    Checks.rules(x, "b");
    for (int kind = 1; kind <= 7; kind++) {
      due("refusals -" + kind, x.count(10 + kind), want[kind]);
    }
    due("texts", x.count(18), 3);
    due("rules", x.count(2), 2);
    due("none such", x.least(0, 0, 0, 9), -9);
    for (int kind = 1; kind <= 7; kind++) {
      due("refusals again -" + kind, x.count(10 + kind), want[kind]);
    }
  }
}
