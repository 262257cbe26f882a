/** Promises 9, 11, 12 and 13: rules behind the grammar, hangs, need, opens. */
public final class RulesTest {
  private static final Checks CHECKS = new Checks();

  private static void due(String told, long got, long want) {
    CHECKS.due(told, got, want);
  }

  public static void main(String[] args) {
    holes();
    twice();
    rings();
    needed();
    strict();
    order();
    hangs();
    need();
    opens();
    CHECKS.end();
  }

  private static void holes() {
    CourseHouse x = new CourseHouse();
    due("no work yet", Checks.rules(x, "a = wa;"), -2000);
    x.work(0, 1, 0, 0);
    x.work(0, 1, 0, 0);
    due("works", Checks.rules(x, "a = wa; b = wb;"), 2);
    due("no third work", Checks.rules(x, "a = wa; b = wc;"), -2001);
    due("the first with a hole", Checks.rules(x, "a = 1; b = 2; c = x; d = x + wj;"), -2002);
    due("a later rule is none", Checks.rules(x, "a = max(b, 2); b = 1;"), 2);
    due("an old rule's name is one", Checks.rules(x, "c = b;"), -2000);
    due("deep inside", Checks.rules(x, "a = 1; b = cap(best 1 (1, (q)), 1);"), -2001);
    due("kept as they were", x.count(2), 2);
    due("texts refused", x.count(18), 5);
    due("not a state", x.count(13), 0);
  }

  private static void twice() {
    CourseHouse x = new CourseHouse();
    due("the later one", Checks.rules(x, "a = 1; b = 1; c = 1; a = 2;"), -3003);
    due("the first that is twice", Checks.rules(x, "a = 1; b = 1; b = 1; a = 2;"), -3002);
    due("thrice", Checks.rules(x, "a = 1; a = 1; a = 2;"), -3001);
    due("a hole is ahead", Checks.rules(x, "a = 1; a = 1; b = x;"), -2002);
    due("twice is ahead of a ring", Checks.rules(x, "a = a; a = 1;"), -3001);
    due("not the same", Checks.rules(x, "a = 1; aa = 1; aaa = 1; b = 1;"), 4);
    due("texts refused", x.count(18), 5);
  }

  private static void rings() {
    CourseHouse x = new CourseHouse();
    x.work(0, 1, 0, 0);
    x.work(0, 1, 0, 0);
    due("itself", Checks.rules(x, "a = a;"), -5);
    due("two", Checks.rules(x, "a = b; b = 1 + a;"), -5);
    due("behind others", Checks.rules(x, "a = b; b = c; c = d; d = max(1, b);"), -5);
    due("none", Checks.rules(x, "a = b + c + d; b = c + d; c = d; d = wa;"), 4);
    due("rings are no refused texts", x.count(18), 0);
    due("RINGs", x.count(15), 3);
    Checks.rules(x, "a = 1; b = 1;");
    due("needed", x.need(0, 1, 0), 1);
    due("a work's need: a ring", Checks.rules(x, "a = 1; b = wa;"), -5);
    due("a work's need behind rules", Checks.rules(x, "a = wa; b = c; c = a;"), -5);
    due("a work's need: no ring", Checks.rules(x, "a = wa; b = wb;"), 2);
    due("two works' needs", x.need(1, 0, 0), -5);
    due("RINGs by needs", x.count(15), 6);
    x.need(0, -1, 0);
    x.need(1, 0, 0);
    due("none needed any more", Checks.rules(x, "a = wa; b = wb + a;"), 2);
    due("a need that is not there makes no ring", need(2, "a = wb; b = 1;"), -3);
    due("a ring is ahead of it", need(2, "a = wa; b = a; c = c;"), -5);
  }

  /** The answer to a text, work 0 needing rule 0 and work 1 needing a rule that goes. */
  private static int need(int rule, String text) {
    CourseHouse x = new CourseHouse();
    x.work(0, 1, 0, 0);
    x.work(0, 1, 0, 0);
    Checks.rules(x, "a = 1; b = 1; c = 1; d = 1;");
    x.need(1, rule, 0);
    return Checks.rules(x, text);
  }

  private static void needed() {
    CourseHouse x = Checks.withPupils(1);
    x.work(0, 9, 0, 0);
    Checks.rules(x, "a = 1; b = 2; c = 3;");
    x.need(0, 2, 3);
    due("rule 2 is not there", Checks.rules(x, "a = 1; b = 2;"), -3);
    due("still the old ones", x.count(2), 3);
    due("STATE", x.count(13), 1);
    due("state is ahead of strict", Checks.rules(x, "a = 0; b = 0;", true), -3);
    due("rule 2 is there", Checks.rules(x, "x = 1; y = 2; z = 2;"), 3);
    due("by its number", x.opens(0, 0), 0);
    x.need(0, -1, 0);
    due("none is needed", Checks.rules(x, "a = 1;"), 1);
  }

  private static void strict() {
    CourseHouse x = Checks.withPupils(2);
    x.work(0, 10, 0, 0);
    x.work(0, 10, 0, 0);
    due("nothing is less than nothing", Checks.rules(x, "a = wa; b = 5;", true), 2);
    due("the same", Checks.rules(x, "b = 5; a = wa;", true), 2);
    due("less", Checks.rules(x, "b = 5 - 1 / 9999; a = wa;", true), -7);
    due("less of another name", Checks.rules(x, "c = 1; b = 5; a = 1;", true), 3);
    due("less, not strict", Checks.rules(x, "a = wa; b = 5;", false), 2);
    x.hand(1, 0);
    x.mark(1, 0, 4);
    due("a second pupil's", Checks.rules(x, "a = cap(wa, 3);", true), -7);
    due("as much", Checks.rules(x, "a = cap(wa, 4);", true), 1);
    x.excuse(1, 0, true);
    due("was out", Checks.rules(x, "a = 1 - 2;", true), -7);
    x.excuse(0, 0, true);
    due("all were out", Checks.rules(x, "a = 1 - 2;", true), 1);
    due("would be out", Checks.rules(x, "a = wa;", true), 1);
    due("below 0", Checks.rules(x, "a = 1 - 2;", true), 1);
    due("would be lost", Checks.rules(x, "a = 9999 * 9999 * 9999;", true), 1);
    due("was lost", Checks.rules(x, "a = 1 - 9;", true), 1);
    due("LESSENED", x.count(17), 3);
    due("not refused texts", x.count(18), 0);
    CourseHouse y = new CourseHouse();
    Checks.rules(y, "a = 5;");
    due("nobody is lessened", Checks.rules(y, "a = 4;", true), 1);
    y.pupil();
    due("somebody is", Checks.rules(y, "b = 1; a = b;", true), -7);
  }

  /** Refusals ahead of others. */
  private static void order() {
    CourseHouse x = Checks.withPupils(1);
    x.work(0, 9, 0, 0);
    Checks.rules(x, "a = 9; b = 9;");
    x.need(0, 1, 0);
    due("fault", Checks.rules(x, "a = a; a = x; +"), -1014);
    due("hole", Checks.rules(x, "a = a; a = x;"), -2001);
    due("twice", Checks.rules(x, "a = a; a = 1;"), -3001);
    due("ring", Checks.rules(x, "a = a;"), -5);
    due("state", Checks.rules(x, "a = 1;", true), -3);
    due("lessened", Checks.rules(x, "a = 1; b = 1;", true), -7);
    due("refused texts", x.count(18), 3);
  }

  private static void hangs() {
    CourseHouse x = new CourseHouse();
    for (int i = 0; i < 5; i++) {
      x.work(0, 1, 0, 0);
    }
    due("no rule", x.hangs(0, 0), -1);
    Checks.rules(x, "a = b + wa; b = max(c, 1); c = pass(wb, 1); d = 5; e = wc;");
    int[][] want = {{1, 1, 0, 0, 0}, {0, 1, 0, 0, 0}, {0, 1, 0, 0, 0}, {0, 0, 0, 0, 0}, {0, 0, 1, 0, 0}};
    for (int r = 0; r < 5; r++) {
      for (int w = 0; w < 5; w++) {
        due("rule " + r + " on " + w, x.hangs(r, w), want[r][w]);
      }
    }
    due("no rule 5", x.hangs(5, 0), -1);
    due("no rule -1", x.hangs(-1, 0), -1);
    due("no work 5", x.hangs(0, 5), -1);
    due("no work -1", x.hangs(0, -1), -1);
    x.need(1, 4, 0);
    due("by a need", x.hangs(2, 2), 1);
    due("by rules and a need", x.hangs(0, 2), 1);
    x.need(2, 3, 0);
    x.need(3, 0, 0);
    due("not the other way", x.hangs(0, 3), 0);
    x.need(1, -1, 0);
    due("none needed again", x.hangs(0, 2), 0);
    x.need(2, -1, 0);
    x.need(3, -1, 0);
    due("read", Checks.rules(x, "a = wa; b = wd; c = b;"), 3);
    x.need(3, 0, 0);
    due("by a need of the first rule", x.hangs(2, 0), 1);
    x.need(3, -1, 0);
    due("not any more", x.hangs(2, 0), 0);
  }

  private static void need() {
    CourseHouse x = Checks.withPupils(1);
    x.work(0, 5, 0, 0);
    x.work(0, 5, 0, 0);
    due("no work", x.need(2, -1, -1), -1);
    due("no work -1", x.need(-1, -1, 0), -1);
    due("no rule", x.need(0, 0, 0), -1);
    due("no rule -2", x.need(0, -2, 0), -1);
    due("none, below", x.need(0, -1, -1), -4);
    due("none, room", x.need(0, -1, 10000), -6);
    due("none", x.need(0, -1, 9999), 1);
    Checks.rules(x, "a = wa; b = a; c = 3; d = wb;");
    due("no rule 4", x.need(0, 4, -1), -1);
    due("below ahead of a ring", x.need(0, 0, -1), -4);
    due("room ahead of a ring", x.need(0, 0, 10000), -6);
    due("its own rule", x.need(0, 0, 1), -5);
    due("its own rule's", x.need(0, 1, 1), -5);
    due("another", x.need(0, 3, 1), 1);
    due("each other", x.need(1, 1, 1), -5);
    due("not each other", x.need(1, 2, 9999), 1);
    due("ring left no trace", x.opens(0, 1), 0);
    due("anew", x.need(1, 2, 3), 1);
    due("open", x.opens(0, 1), 1);
    due("RINGs", x.count(15), 3);
    due("BELOW", x.count(14), 2);
    due("ROOM", x.count(16), 2);
    due("NOBODY", x.count(11), 5);
  }

  private static void opens() {
    CourseHouse x = Checks.withPupils(2);
    for (int i = 0; i < 3; i++) {
      x.work(0, 10, 0, 0);
    }
    due("no pupil", x.opens(2, 0), -1);
    due("no pupil -1", x.opens(-1, 0), -1);
    due("no work", x.opens(0, 3), -1);
    due("no work -1", x.opens(0, -1), -1);
    Checks.rules(x, "a = wa / 2; l = 9999 * 9999 * 9999;");
    due("all are", x.opens(0, 1), 1);
    x.need(1, 0, 2);
    due("0 is less", x.opens(0, 1), 0);
    x.hand(0, 0);
    x.mark(0, 0, 3);
    due("3 by 2 is less than 2", x.opens(0, 1), 0);
    due("not open", x.hand(0, 1), -3);
    x.appeal(0, 0, 4);
    due("2", x.opens(0, 1), 1);
    due("the other's is not", x.opens(1, 1), 0);
    due("open", x.hand(0, 1), 1);
    x.excuse(0, 0, true);
    due("out is no number", x.opens(0, 1), 0);
    x.need(1, 0, 0);
    due("out is no 0", x.opens(0, 1), 0);
    due("0 is", x.opens(1, 1), 1);
    x.need(2, 1, 0);
    due("lost is no number", x.opens(0, 2), 0);
    x.need(2, -1, 5);
    due("none needed", x.opens(0, 2), 1);
    x.excuse(0, 2, true);
    due("excused, but open", x.opens(0, 2), 1);
  }
}
