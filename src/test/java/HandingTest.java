/** Promises 14, 15 and 18: hand, mark, appeal. */
public final class HandingTest {
  private static final Checks CHECKS = new Checks();

  private static void due(String told, long got, long want) {
    CHECKS.due(told, got, want);
  }

  public static void main(String[] args) {
    nobody();
    single();
    grouped();
    groupedMoves();
    groupedAtOneTick();
    tried();
    shown();
    refusedMarks();
    appeal();
    CHECKS.end();
  }

  private static CourseHouse with(int pupils, int kind) {
    CourseHouse x = Checks.withPupils(pupils);
    x.work(kind, 10, 0, 10);
    return x;
  }

  private static void nobody() {
    CourseHouse x = with(1, 0);
    for (int[] pw : new int[][] {{1, 0}, {-1, 0}, {0, 1}, {0, -1}, {6, 0}, {0, 10}}) {
      due("hand", x.hand(pw[0], pw[1]), -1);
      due("mark", x.mark(pw[0], pw[1], -1), -1);
      due("appeal", x.appeal(pw[0], pw[1], 11), -1);
    }
    due("NOBODY", x.count(11), 18);
  }

  private static void single() {
    CourseHouse x = with(2, 0);
    due("nothing to mark", x.mark(0, 0, 1), -3);
    due("first", x.hand(0, 0), 1);
    x.tick(25);
    due("again", x.hand(0, 0), 1);
    due("two hand-ins", x.markOf(0, 0, 4), 2);
    due("the latest counts", x.markOf(0, 0, 3), 2);
    due("the other's is not there", x.mark(1, 0, 1), -3);
    due("marked", x.mark(0, 0, 10), 1);
    due("marked again", x.mark(0, 0, 10), -3);
    due("no more", x.hand(0, 0), -3);
    due("mark", x.markOf(0, 0, 0), 8);
    due("still two", x.markOf(0, 0, 4), 2);
    due("the other's", x.hand(1, 0), 1);
    due("hand-ins", x.count(5), 3);
    due("marks", x.count(6), 1);
    due("STATE", x.count(13), 4);
    x.excuse(1, 0, true);
    due("excused", x.hand(1, 0), -3);
    due("what was handed in can be marked", x.mark(1, 0, 0), 1);
    x.excuse(1, 0, false);
    due("a mark of 0 is one", x.hand(1, 0), -3);
    due("marked 0", x.markOf(1, 0, 2), 1);
  }

  private static void grouped() {
    CourseHouse x = with(4, 1);
    x.group(1, 0);
    x.group(2, 0);
    due("three", x.hand(1, 0), 3);
    due("each has it", x.markOf(2, 0, 4), 1);
    due("not the fourth", x.markOf(3, 0, 4), 0);
    x.tick(1);
    due("again", x.hand(0, 0), 3);
    due("each has two", x.markOf(1, 0, 4), 2);
    due("hand-ins", x.count(5), 6);
    x.excuse(2, 0, true);
    due("who hands in must not be excused", x.hand(2, 0), -3);
    due("the others may", x.hand(1, 0), 3);
    due("an excused one has it too", x.markOf(2, 0, 4), 3);
    due("all three marked", x.mark(2, 0, 7), 3);
    due("marks", x.count(6), 3);
    due("no more", x.hand(0, 0), -3);
    due("nor a second mark", x.mark(0, 0, 7), -3);
    x.group(3, 0);
    due("one is marked", x.hand(3, 0), -3);
    x.group(3, 4);
    due("alone", x.hand(3, 0), 1);
    CourseHouse first = with(3, 1);
    first.hand(0, 0);
    first.mark(0, 0, 2);
    first.group(0, 1);
    due("pupil 0 is marked", first.hand(1, 0), -3);
    due("none has it by that", first.markOf(1, 0, 4), 0);
    first.group(0, 0);
    due("nobody else is", first.hand(1, 0), 1);
    due("alone marked", x.mark(3, 0, 1), 1);
    due("its own", x.markOf(3, 0, 0), 9);
    due("lessened", x.markOf(0, 0, 0), 63);
    due("lessened by 10", x.markOf(0, 0, 1), 10);
    x.leave(1, 0, 1);
    due("each by its own leave", x.markOf(1, 0, 0), 7);
    CourseHouse y = with(2, 0);
    y.work(1, 10, 0, 0);
    y.group(1, 0);
    Checks.rules(y, "a = wa;");
    y.need(1, 0, 5);
    due("open for none", y.hand(0, 1), -3);
    y.hand(1, 0);
    y.mark(1, 0, 5);
    due("open for the other", y.hand(0, 1), -3);
    due("open for who hands in", y.hand(1, 1), 2);
  }

  private static void groupedMoves() {
    CourseHouse x = with(4, 1);
    x.group(1, 0);
    due("two", x.hand(0, 0), 2);
    x.group(1, 3);
    x.tick(1);
    due("leaving changes nothing", x.mark(1, 0, 5), 2);
    due("both", x.markOf(0, 0, 2), 1);
    // Pupil 1 is marked now; group 3 can't hand in while it is there.
    due("a marked one came", x.hand(3, 0), -3);
    x.group(1, 0);
    due("it is gone", x.hand(3, 0), 1);
    CourseHouse y = with(4, 1);
    y.group(1, 0);
    y.hand(0, 0);
    y.group(1, 2);
    y.tick(1);
    due("a later hand-in of another group", y.hand(2, 0), 2);
    due("only who has the latest from there", y.mark(0, 0, 4), 1);
    due("the other waits", y.markOf(1, 0, 2), 2);
    due("its latest", y.mark(1, 0, 6), 2);
    due("6, lessened: upper", y.markOf(2, 0, 0), 27);
    due("6, lessened: lower", y.markOf(1, 0, 1), 5);
    CourseHouse z = with(3, 1);
    z.group(1, 0);
    z.hand(0, 0);
    z.tick(1);
    z.group(1, 1);
    z.hand(0, 0);
    due("another tick is another hand-in", z.mark(1, 0, 4), 1);
    due("by itself", z.mark(0, 0, 5), 1);
  }

  private static void groupedAtOneTick() {
    CourseHouse x = with(3, 1);
    x.group(1, 0);
    x.hand(0, 0);
    x.group(1, 1);
    due("again at that tick, alone", x.hand(0, 0), 1);
    due("that tick by the same pupil", x.mark(0, 0, 4), 2);
    CourseHouse y = with(3, 1);
    y.group(1, 0);
    y.hand(0, 0);
    y.group(1, 2);
    y.hand(1, 0);
    due("that tick by another pupil", y.mark(0, 0, 4), 1);
    due("the others", y.mark(2, 0, 5), 2);
  }

  private static void tried() {
    CourseHouse x = with(1, 2);
    due("first", x.hand(0, 0), 1);
    due("not marked", x.hand(0, 0), -3);
    due("mark", x.mark(0, 0, 4), 1);
    due("no second mark", x.mark(0, 0, 4), -3);
    x.tick(24);
    due("second", x.hand(0, 0), 1);
    due("one day", x.markOf(0, 0, 3), 1);
    due("as the first was", x.markOf(0, 0, 0), 4);
    due("marked already", x.markOf(0, 0, 2), 1);
    due("mark 2", x.mark(0, 0, 5), 1);
    due("the greatest: 45 by 10", x.markOf(0, 0, 0), 9);
    due("the greatest: 9 by 2", x.markOf(0, 0, 1), 2);
    x.tick(24);
    due("third", x.hand(0, 0), 1);
    due("mark 3", x.mark(0, 0, 5), 1);
    due("the greatest is lessened less", x.markOf(0, 0, 0), 9);
    due("no fourth", x.hand(0, 0), -3);
    due("three", x.markOf(0, 0, 4), 3);
    CourseHouse y = with(1, 2);
    y.hand(0, 0);
    due("mark 0", y.mark(0, 0, 0), 1);
    due("0 is a mark", y.mark(0, 0, 5), -3);
    due("and so a second try", y.hand(0, 0), 1);
    due("hand-ins", x.count(5), 3);
    due("marks", x.count(6), 3);
  }

  private static void shown() {
    CourseHouse x = with(2, 3);
    due("once", x.hand(0, 0), 1);
    due("not twice", x.hand(0, 0), -3);
    due("no mark", x.mark(0, 0, -1), -3);
    due("no appeal", x.appeal(0, 0, -1), -3);
    x.hand(1, 0);
    x.show(1, 0, 0, 4);
    due("no appeal against a peer's", x.appeal(0, 0, 1), -3);
    due("no mark beside a peer's", x.mark(0, 0, 1), -3);
    due("not even then", x.hand(0, 0), -3);
  }

  private static void refusedMarks() {
    CourseHouse x = with(1, 0);
    due("state ahead of below", x.mark(0, 0, -1), -3);
    due("state ahead of room", x.mark(0, 0, 11), -3);
    x.hand(0, 0);
    due("below", x.mark(0, 0, -1), -4);
    due("room", x.mark(0, 0, 11), -6);
    due("still nothing", x.count(6), 0);
    due("most", x.mark(0, 0, 10), 1);
    CourseHouse y = with(1, 1);
    y.hand(0, 0);
    due("grouped: below", y.mark(0, 0, -1), -4);
    due("grouped: room", y.mark(0, 0, 11), -6);
    due("grouped: least", y.mark(0, 0, 0), 1);
  }

  private static void appeal() {
    CourseHouse x = with(1, 0);
    due("nothing", x.appeal(0, 0, -1), -3);
    x.hand(0, 0);
    due("nothing marked", x.appeal(0, 0, 11), -3);
    x.mark(0, 0, 3);
    due("below", x.appeal(0, 0, -1), -4);
    due("room", x.appeal(0, 0, 11), -6);
    due("none yet", x.count(7), 0);
    due("what was", x.appeal(0, 0, 10), 3);
    due("what was then", x.appeal(0, 0, 0), 10);
    due("may be less", x.markOf(0, 0, 0), 0);
    due("the same is another one", x.appeal(0, 0, 0), 0);
    due("appeals", x.count(7), 3);
    due("marks", x.count(6), 1);
    CourseHouse g = with(2, 1);
    g.group(1, 0);
    g.hand(0, 0);
    g.mark(0, 0, 4);
    due("of one alone", g.appeal(1, 0, 9), 4);
    due("its mark", g.markOf(1, 0, 0), 9);
    due("not the other's", g.markOf(0, 0, 0), 4);
    CourseHouse t = with(1, 2);
    t.hand(0, 0);
    t.mark(0, 0, 6);
    t.tick(24);
    t.hand(0, 0);
    due("the latest that is marked", t.appeal(0, 0, 2), 6);
    due("the first", t.markOf(0, 0, 0), 2);
    t.mark(0, 0, 4);
    due("the second now", t.appeal(0, 0, 10), 4);
    t.hand(0, 0);
    due("the third waits", t.appeal(0, 0, 10), 10);
    t.mark(0, 0, 7);
    due("the third now", t.appeal(0, 0, 1), 7);
    due("lessened", t.markOf(0, 0, 0), 9);
    t.excuse(0, 0, true);
    due("excused", t.appeal(0, 0, 2), 1);
  }
}
