/** Calls of CourseHouse by their names. */
final class CallByName {
  private CallByName() {
  }

  static int answer(CourseHouse x, String name, int[] a) {
    switch (name) {
      case "pupil": return x.pupil();
      case "group": return x.group(a[0], a[1]);
      case "work": return x.work(a[0], a[1], a[2], a[3]);
      case "leave": return x.leave(a[0], a[1], a[2]);
      case "excuse": return x.excuse(a[0], a[1], a[2] != 0);
      case "tick": return x.tick(a[0]);
      case "text": return x.text(a[0], a[1], a[2], a[3], a[4]);
      case "rules": return x.rules(a[0], a[1] != 0);
      case "name": return x.name(a[0]);
      case "hangs": return x.hangs(a[0], a[1]);
      case "need": return x.need(a[0], a[1], a[2]);
      case "opens": return x.opens(a[0], a[1]);
      case "hand": return x.hand(a[0], a[1]);
      case "mark": return x.mark(a[0], a[1], a[2]);
      case "peer": return x.peer(a[0], a[1], a[2]);
      case "show": return x.show(a[0], a[1], a[2], a[3]);
      case "appeal": return x.appeal(a[0], a[1], a[2]);
      case "markOf": return x.markOf(a[0], a[1], a[2]);
      case "value": return x.value(a[0], a[1], a[2]);
      case "range": return x.range(a[0], a[1], a[2]);
      case "least": return x.least(a[0], a[1], a[2], a[3]);
      default: return x.count(a[0]);
    }
  }
}
