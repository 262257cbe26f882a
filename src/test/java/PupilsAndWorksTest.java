/** Promises 1 to 7: a new object, pupil, group, work, leave, excuse, tick. */
public final class PupilsAndWorksTest {
  private static final Checks CHECKS = new Checks();

  private static void due(String told, long got, long want) {
    CHECKS.due(told, got, want);
  }

  public static void main(String[] args) {
    newObject();
    pupil();
    group();
    work();
    leave();
    excuse();
    tick();
    CHECKS.end();
  }

  private static void newObject() {
    CourseHouse x = new CourseHouse();
    for (int what = -3; what <= 30; what++) {
      boolean told = what >= 0 && what <= 8 || what >= 11 && what <= 18;
      due("new: count(" + what + ")", x.count(what), told ? 0 : -9);
    }
    due("new: first pupil", x.pupil(), 0);
    due("new: first work", x.work(0, 1, 0, 0), 0);
    due("new: not excused", x.excuse(0, 0, false), 0);
    due("new: no rule needed", x.opens(0, 0), 1);
  }

  private static void pupil() {
    CourseHouse x = new CourseHouse();
    for (int i = 0; i < 6; i++) {
      due("pupil " + i, x.pupil(), i);
    }
    due("seventh pupil", x.pupil(), -6);
    due("seventh pupil again", x.pupil(), -6);
    due("pupils", x.count(0), 6);
    due("ROOM", x.count(16), 2);
    for (int i = 0; i < 6; i++) {
      due("own group at first", x.group(i, 0), i);
    }
  }

  private static void group() {
    CourseHouse x = Checks.withPupils(2);
    due("to 5", x.group(1, 5), 1);
    due("to 0", x.group(1, 0), 5);
    due("to where it is", x.group(1, 0), 0);
    due("no pupil 2", x.group(2, 0), -1);
    due("no pupil -1", x.group(-1, 0), -1);
    due("no group 6", x.group(0, 6), -1);
    due("no group -1", x.group(0, -1), -1);
    due("unchanged", x.group(0, 0), 0);
    due("NOBODY", x.count(11), 4);
    x.pupil();
    due("a later pupil has its own group", x.group(2, 1), 2);
  }

  private static void work() {
    CourseHouse x = new CourseHouse();
    due("kind -1", x.work(-1, 0, 0, 0), -1);
    due("kind 4 ahead of the others", x.work(4, 0, -1, 101), -1);
    due("most 0", x.work(0, 0, 0, 0), -4);
    due("due -1", x.work(0, 1, -1, 0), -4);
    due("less -1", x.work(0, 1, 0, -1), -4);
    due("below ahead of room", x.work(0, 21, -1, 0), -4);
    due("below ahead of room 2", x.work(0, 0, 100001, 101), -4);
    due("most 21", x.work(0, 21, 0, 0), -6);
    due("due 100001", x.work(0, 1, 100001, 0), -6);
    due("less 101", x.work(0, 1, 0, 101), -6);
    due("none yet", x.count(1), 0);
    for (int i = 0; i < 10; i++) {
      due("work " + i, x.work(i % 4, i % 2 == 0 ? 1 : 20, i % 2 == 0 ? 0 : 100000, i % 2 == 0 ? 0 : 100), i);
    }
    due("eleventh", x.work(0, 1, 0, 0), -6);
    due("eleventh of no kind", x.work(9, 1, 0, 0), -1);
    due("eleventh below", x.work(0, 0, 0, 0), -4);
    due("works", x.count(1), 10);
    due("NOBODY", x.count(11), 3);
    due("BELOW", x.count(14), 6);
    due("ROOM", x.count(16), 4);
    x.pupil();
    x.hand(0, 0);
    due("its own most: above", x.mark(0, 0, 2), -6);
    due("its own most", x.mark(0, 0, 1), 1);
    x.hand(0, 1);
    due("a group work's own most: above", x.mark(0, 1, 21), -6);
    due("a group work's own most", x.mark(0, 1, 20), 1);
  }

  private static void leave() {
    CourseHouse x = Checks.withPupils(2);
    x.work(0, 10, 0, 10);
    due("no pupil", x.leave(2, 0, -1), -1);
    due("no pupil -1", x.leave(-1, 0, 0), -1);
    due("no work", x.leave(0, 1, 1001), -1);
    due("no work -1", x.leave(0, -1, 0), -1);
    due("below", x.leave(0, 0, -1), -4);
    due("room", x.leave(0, 0, 1001), -6);
    due("0 at first", x.leave(0, 0, 1000), 0);
    due("what it was", x.leave(0, 0, 48), 1000);
    due("that pupil's alone", x.leave(1, 0, 0), 0);
    x.tick(73);
    x.hand(0, 0);
    x.hand(1, 0);
    x.mark(0, 0, 10);
    x.mark(1, 0, 10);
    due("days less leave", x.markOf(0, 0, 3), 2);
    due("days", x.markOf(1, 0, 3), 4);
    due("mark less leave", x.markOf(0, 0, 0), 8);
    due("mark", x.markOf(1, 0, 0), 6);
    due("was 48", x.leave(0, 0, 49), 48);
    due("one tick more is one day less", x.markOf(0, 0, 3), 1);
    due("for hand-ins that were, too", x.markOf(0, 0, 0), 9);
    due("was 49", x.leave(0, 0, 73), 49);
    due("by then", x.markOf(0, 0, 3), 0);
    due("refusals left it", x.leave(0, 0, 0), 73);
  }

  private static void excuse() {
    CourseHouse x = Checks.withPupils(2);
    x.work(0, 10, 0, 0);
    x.work(0, 10, 0, 0);
    due("no pupil", x.excuse(2, 0, true), -1);
    due("no pupil -1", x.excuse(-1, 0, true), -1);
    due("no work", x.excuse(0, 2, true), -1);
    due("no work -1", x.excuse(0, -1, false), -1);
    due("not is so", x.excuse(0, 0, false), 0);
    due("on", x.excuse(0, 0, true), 1);
    due("on is so", x.excuse(0, 0, true), 0);
    due("out", x.markOf(0, 0, 2), 0);
    due("the other work is not", x.markOf(0, 1, 2), 2);
    due("the other pupil is not", x.markOf(1, 0, 2), 2);
    due("no hand-in", x.hand(0, 0), -3);
    due("off", x.excuse(0, 0, false), 1);
    due("off is so", x.excuse(0, 0, false), 0);
    due("hand-in", x.hand(0, 0), 1);
  }

  private static void tick() {
    CourseHouse x = new CourseHouse();
    due("0", x.tick(0), -4);
    due("-1", x.tick(-1), -4);
    due("least int", x.tick(Integer.MIN_VALUE), -4);
    due("1", x.tick(1), 1);
    due("too many", x.tick(100000), -6);
    due("greatest int", x.tick(Integer.MAX_VALUE), -6);
    due("to the last", x.tick(99999), 100000);
    due("none is left", x.tick(1), -6);
    due("TICK", x.count(3), 100000);
    due("BELOW", x.count(14), 3);
    due("ROOM", x.count(16), 3);
  }
}
