/** Promises 16 and 17: peer, show. */
public final class PeersTest {
  private static final Checks CHECKS = new Checks();

  private static void due(String told, long got, long want) {
    CHECKS.due(told, got, want);
  }

  public static void main(String[] args) {
    peers();
    refusedPeers();
    show();
    refusedShow();
    CHECKS.end();
  }

  private static CourseHouse with(int pupils) {
    CourseHouse x = Checks.withPupils(pupils);
    x.work(3, 10, 0, 10);
    x.work(0, 10, 0, 0);
    return x;
  }

  private static void isPeers(CourseHouse x, int p, int first, int second) {
    due("first peer of " + p, x.peer(p, 0, 0), first);
    due("second peer of " + p, x.peer(p, 0, 1), second);
  }

  private static void peers() {
    CourseHouse x = with(6);
    x.hand(3, 0);
    isPeers(x, 3, -9, -9);
    x.hand(1, 0);
    isPeers(x, 3, 1, -9);
    isPeers(x, 1, 3, -9);
    x.hand(5, 0);
    isPeers(x, 1, 3, 5);
    isPeers(x, 3, 5, 1);
    isPeers(x, 5, 1, 3);
    x.hand(0, 0);
    isPeers(x, 1, 3, 5);
    isPeers(x, 3, 5, 0);
    isPeers(x, 5, 0, 1);
    isPeers(x, 0, 1, 3);
    x.hand(4, 0);
    isPeers(x, 3, 4, 5);
    isPeers(x, 1, 3, 4);
    x.excuse(4, 0, true);
    isPeers(x, 3, 4, 5);
    due("no third", x.peer(3, 0, 2), -9);
    due("none -1", x.peer(3, 0, -1), -9);
    due("none is no refusal", x.count(13) + x.count(12) + x.count(11), 0);
  }

  private static void refusedPeers() {
    CourseHouse x = with(2);
    due("no pupil", x.peer(2, 0, 0), -1);
    due("no pupil -1", x.peer(-1, 0, 5), -1);
    due("no work", x.peer(0, 2, 0), -1);
    due("no work -1", x.peer(0, -1, 0), -1);
    due("not shown", x.peer(0, 1, 0), -3);
    x.hand(0, 1);
    due("not shown, handed in", x.peer(0, 1, 7), -3);
    due("not handed in", x.peer(0, 0, 0), -3);
    due("not handed in, none such", x.peer(0, 0, 2), -3);
    x.hand(1, 0);
    due("the other's", x.peer(0, 0, 0), -3);
    due("NOBODY", x.count(11), 4);
    due("STATE", x.count(13), 5);
  }

  private static void show() {
    CourseHouse x = with(5);
    x.hand(0, 0);
    x.hand(2, 0);
    x.hand(4, 0);
    due("first", x.show(2, 0, 0, 3), 1);
    due("one mark", x.markOf(0, 0, 0), 3);
    due("marked", x.markOf(0, 0, 2), 1);
    due("others are not", x.markOf(2, 0, 2), 2);
    due("second", x.show(4, 0, 0, 10), 2);
    due("the mean", x.markOf(0, 0, 0), 13);
    due("of two", x.markOf(0, 0, 1), 2);
    due("once", x.show(2, 0, 0, 3), -3);
    x.tick(24);
    x.hand(1, 0);
    due("new peers", x.peer(0, 0, 0), 1);
    due("old one no more", x.show(4, 0, 0, 1), -3);
    due("third mark", x.show(1, 0, 0, 0), 3);
    due("the mean of three", x.markOf(0, 0, 0), 13);
    due("by three", x.markOf(0, 0, 1), 3);
    due("the late one's", x.show(2, 1, 0, 5), 1);
    due("and the next", x.show(4, 1, 0, 6), 2);
    due("lessened: 55 by 10 times 9 by 10", x.markOf(1, 0, 0), 99);
    due("lessened by", x.markOf(1, 0, 1), 20);
    due("marks", x.count(6), 5);
    due("one who may mark is no peer of all", x.show(0, 1, 0, 1), -3);
    due("0 is a mark", x.show(4, 2, 0, 0), 1);
    due("so it is marked", x.markOf(2, 0, 2), 1);
    x.excuse(2, 0, true);
    due("an excused one's", x.show(0, 2, 0, 1), 2);
    CourseHouse y = with(2);
    y.hand(0, 0);
    y.hand(1, 0);
    due("by pupil 0", y.show(0, 1, 0, 7), 1);
    due("pupil 0's mark", y.markOf(1, 0, 0), 7);
    due("pupil 0 once", y.show(0, 1, 0, 7), -3);
    due("0 by pupil 1", y.show(1, 0, 0, 0), 1);
    due("0 once", y.show(1, 0, 0, 3), -3);
  }

  private static void refusedShow() {
    CourseHouse x = with(3);
    due("no by", x.show(3, 0, 0, -1), -1);
    due("no by -1", x.show(-1, 0, 0, 0), -1);
    due("no pupil", x.show(0, 3, 0, 0), -1);
    due("no pupil -1", x.show(0, -1, 0, 0), -1);
    due("no work", x.show(0, 1, 2, 0), -1);
    due("no work -1", x.show(0, 1, -1, 0), -1);
    due("not shown", x.show(0, 1, 1, -1), -3);
    due("not handed in", x.show(0, 1, 0, 11), -3);
    x.hand(0, 0);
    due("not handed in by p", x.show(0, 1, 0, 1), -3);
    due("its own", x.show(0, 0, 0, 1), -3);
    due("no peer", x.show(1, 0, 0, -1), -3);
    x.hand(1, 0);
    due("below", x.show(1, 0, 0, -1), -4);
    due("room", x.show(1, 0, 0, 11), -6);
    due("nothing yet", x.count(6), 0);
    due("most", x.show(1, 0, 0, 10), 1);
    due("marked ahead of below", x.show(1, 0, 0, -1), -3);
    x.hand(2, 0);
    due("the second", x.show(2, 0, 0, 0), 2);
    due("STATE", x.count(13), 6);
  }
}
