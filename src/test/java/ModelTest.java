import java.util.ArrayList;
import java.util.List;
import java.util.Random;

/** Long runs of chosen calls, each answered by CourseHouse and by the Model; they must agree. */
public final class ModelTest {
  private static final int RUNS = 1500;
  private static final int CALLS = 400;
  private static final String[] NAMES = {"a", "b", "c", "ab", "mid", "best", "z", "wk", "abcd", "q", "rest", "m", "x"};
  private static final String[] JUNK = {" ", ";", "=", "+", "-", "*", "/", "(", ")", ",", "0", "7", "12345", "wa",
      "wj", "max", "best", "cap", "abcde", "#", "a", "", "1 2", "\u0000", "\u00ff", "A"};

  private final Random random;
  private final CourseHouse house = new CourseHouse();
  private final Model model = new Model();
  private final List<String> log = new ArrayList<>();
  private final long[] taken;
  private int works;
  private int pupils;
  private int budget;

  private ModelTest(int seed, long[] taken) {
    random = new Random(seed);
    this.taken = taken;
  }

  public static void main(String[] args) {
    Checks checks = new Checks();
    long[] taken = new long[30];
    int from = args.length > 0 ? Integer.parseInt(args[0]) : 1;
    int runs = args.length > 1 ? Integer.parseInt(args[1]) : RUNS;
    int wrong = 0;
    for (int seed = from; seed < from + runs && wrong < 3; seed++) {
      String fault = new ModelTest(seed, taken).run();
      checks.isTrue("run " + seed + ": " + fault, fault == null);
      wrong += fault == null ? 0 : 1;
    }
    // The runs are worth nothing if the calls that matter are all refused.
    String[] told = {"rules taken", "ranges with -", "ranges without", "least marks", "hand-ins", "marks", "shows",
        "appeals", "values", "lost", "out", "faults", "strict refused", "rings", "holes", "twice", "needs",
        "fractions", "group marks"};
    for (int i = 0; i < told.length; i++) {
      System.out.println(told[i] + ": " + taken[i]);
      checks.isTrue("many " + told[i], taken[i] >= runs / 20);
    }
    checks.end();
  }

  private int upTo(int n) {
    return random.nextInt(n + 1);
  }

  private boolean oneIn(int n) {
    return random.nextInt(n) == 0;
  }

  private String run() {
    String fault = null;
    int setUp = 4 + upTo(8);
    for (int i = 0; i < CALLS && fault == null; i++) {
      fault = i < setUp ? oneIn(2) ? call("pupil") : newWork() : step();
    }
    if (fault == null) {
      for (int what = -1; what <= 20 && fault == null; what++) {
        fault = call("count", what);
      }
    }
    return fault;
  }

  private int pupil() {
    return oneIn(60) ? upTo(8) - 1 : random.nextInt(Math.max(1, pupils));
  }

  private int work() {
    return oneIn(60) ? upTo(12) - 1 : random.nextInt(Math.max(1, works));
  }

  private int rule() {
    int rules = house.count(2);
    model.call("count", new int[] {2});
    return oneIn(40) ? upTo(14) - 1 : random.nextInt(Math.max(1, rules));
  }

  private int v() {
    return oneIn(40) ? upTo(24) - 2 : oneIn(3) ? upTo(20) : upTo(4);
  }

  private String newWork() {
    int kind = oneIn(30) ? upTo(6) - 1 : upTo(3);
    int most = oneIn(30) ? upTo(22) - 1 : oneIn(4) ? 1 + upTo(19) : 1 + upTo(5);
    int due = oneIn(30) ? upTo(2) - 1 + 100000 * upTo(1) : upTo(200);
    int less = oneIn(30) ? upTo(102) - 1 : oneIn(3) ? 0 : upTo(40);
    return call("work", kind, most, due, less);
  }

  private String step() {
    int p = pupil();
    int w = work();
    switch (upTo(29)) {
      case 0: return call("pupil");
      case 1: return call("group", p, oneIn(20) ? upTo(8) - 1 : upTo(2));
      case 2: return oneIn(3) ? newWork() : call("excuse", p, w, upTo(1));
      case 3: return call("leave", p, w, oneIn(9) ? upTo(1100) - 10 : upTo(60));
      case 4: return call("tick", oneIn(90) ? upTo(100000) : upTo(30));
      case 5: case 6: return newRules();
      case 7: return call("name", rule());
      case 8: return call("hangs", rule(), w);
      case 9: return oneIn(3) ? need(w) : showOften(w);
      case 10: return call("opens", p, w);
      case 11: case 12: case 13: case 14: return call("hand", p, w);
      case 15: case 16: case 17: case 18: return call("mark", p, w, v());
      case 19: return call("peer", p, w, oneIn(9) ? upTo(4) - 1 : upTo(1));
      case 20: case 21: return oneIn(3) ? call("show", pupil(), p, w, v()) : showOften(w);
      case 22: return call("appeal", p, w, v());
      case 23: return call("markOf", p, w, oneIn(20) ? upTo(7) - 1 : upTo(4));
      case 24: case 25: return values(p, rule());
      case 26: case 27: return ranges(p, rule());
      case 28: return call("least", p, rule(), w, oneIn(20) ? upTo(11000) - 500 : 1 + upTo(oneIn(2) ? 3 : 15));
      default: return call("count", upTo(22) - 2);
    }
  }

  private String need(int w) {
    return call("need", w, oneIn(3) ? -1 : rule(), oneIn(20) ? upTo(12000) - 1000 : upTo(6));
  }

  /** A peer's mark for all who wait for one. */
  private String showOften(int w) {
    String fault = null;
    for (int p = 0; p < pupils && fault == null; p++) {
      if (!oneIn(3)) {
        int by = house.peer(p, w, upTo(1));
        // The model must count what the house counted.
        model.call("peer", new int[] {p, w, 0});
        fault = call("show", by < 0 ? pupil() : by, p, w, v());
      }
    }
    return fault;
  }

  private String values(int p, int rule) {
    String fault = call("value", p, rule, oneIn(20) ? 3 : 0);
    fault = fault == null ? call("value", p, rule, 1) : fault;
    return fault == null ? call("value", p, rule, 2) : fault;
  }

  private String ranges(int p, int rule) {
    String fault = null;
    for (int what = 0; what <= 4 && fault == null; what++) {
      fault = call("range", p, rule, oneIn(60) ? 5 : what);
    }
    return fault;
  }

  // Texts.

  private String newRules() {
    int many = oneIn(8) ? 13 : 1 + upTo(4);
    StringBuilder text = new StringBuilder();
    int[] order = new int[many];
    for (int i = 0; i < many; i++) {
      int other = upTo(i);
      order[i] = order[other];
      order[other] = i;
    }
    budget = 10 + upTo(oneIn(10) ? 200 : 40);
    boolean minus = oneIn(2);
    for (int i = 0; i < many; i++) {
      String called = oneIn(60) ? NAMES[0] : oneIn(200) ? "wb" : NAMES[i].equals("best") ? "be" : NAMES[i];
      text.append(blank()).append(called).append(blank()).append('=').append(sum(order, i, 0, minus)).append(';');
    }
    if (oneIn(6)) {
      int at = upTo(text.length() - 1);
      text.replace(at, at + upTo(1), JUNK[random.nextInt(JUNK.length)]);
    }
    if (oneIn(20)) {
      text.setLength(upTo(text.length()));
    }
    if (text.length() > 600) {
      text.setLength(600);
    }
    String fault = null;
    for (int at = 0; at < text.length() && fault == null; at += 20) {
      String all = text.toString();
      fault = call("text", Checks.four(all, at), Checks.four(all, at + 4), Checks.four(all, at + 8),
          Checks.four(all, at + 12), Checks.four(all, at + 16));
    }
    int n = oneIn(40) ? text.length() + upTo(50) - 25 : text.length();
    return fault == null ? call("rules", n, oneIn(3) ? 1 : 0) : fault;
  }

  private String blank() {
    return oneIn(6) ? " " : "";
  }

  private String sum(int[] order, int own, int depth, boolean minus) {
    StringBuilder made = new StringBuilder(product(order, own, depth, minus));
    while (oneIn(depth < 2 ? 2 : 4)) {
      made.append(minus && oneIn(2) ? '-' : '+').append(product(order, own, depth, minus));
    }
    return made.toString();
  }

  private String product(int[] order, int own, int depth, boolean minus) {
    StringBuilder made = new StringBuilder(part(order, own, depth, minus));
    while (oneIn(4)) {
      if (oneIn(3)) {
        made.append('/').append(blank()).append(oneIn(40) ? 0 : oneIn(4) ? upTo(9999) : 1 + upTo(8));
      } else {
        made.append('*').append(part(order, own, depth, minus));
      }
    }
    return made.toString();
  }

  private String part(int[] order, int own, int depth, boolean minus) {
    budget--;
    int kind = budget < 0 || depth > 8 ? upTo(3) : upTo(oneIn(2) ? 6 : 11);
    String before = blank();
    switch (kind) {
      case 0: return before + (oneIn(9) ? "9999*9999*" + upTo(99) : oneIn(5) ? upTo(9999) : upTo(12));
      case 1: case 2: return before + "w" + (char) ('a' + (oneIn(90) ? works : upTo(Math.max(0, Math.min(works, 10) - 1))));
      case 3: case 4: case 5: return before + rule(order, own);
      case 6: return before + "(" + sum(order, own, depth + 1, minus) + blank() + ")";
      case 7: return before + "cap" + blank() + "(" + sum(order, own, depth + 1, minus) + "," + upTo(20) + ")";
      case 8: return before + "pass(" + sum(order, own, depth + 1, minus) + "," + blank() + upTo(9) + ")";
      default: return before + list(order, own, depth, minus);
    }
  }

  private String rule(int[] order, int own) {
    if (oneIn(60)) {
      return NAMES[upTo(4)];
    }
    int[] other = order.clone();
    for (int tries = 0; tries < 4; tries++) {
      int named = random.nextInt(other.length);
      if (order[named] > order[own]) {
        return NAMES[named].equals("best") ? "be" : NAMES[named];
      }
    }
    return "w" + (char) ('a' + upTo(Math.max(0, Math.min(works, 10) - 1)));
  }

  private String list(int[] order, int own, int depth, boolean minus) {
    String[] ops = {"max", "min", "mean", "best " + upTo(3), "drop" + upTo(3)};
    StringBuilder made = new StringBuilder(ops[upTo(4)]).append(blank()).append('(');
    int many = oneIn(40) ? 9 + upTo(2) : 1 + upTo(3);
    for (int i = 0; i < many; i++) {
      made.append(i > 0 ? "," : "").append(sum(order, own, depth + 1, minus));
    }
    return made.append(')').toString();
  }

  // Calls.

  private String call(String name, int... a) {
    int got = CallByName.answer(house, name, a);
    int want = model.call(name, a);
    StringBuilder told = new StringBuilder(name);
    for (int one : a) {
      told.append(' ').append(one);
    }
    log.add(told + " -> " + got);
    note(name, a, got);
    if (got == want) {
      return null;
    }
    System.out.println(String.join("\n", log));
    return told + " answered " + got + ", the model " + want;
  }

  private void note(String name, int[] a, int got) {
    switch (name) {
      case "pupil": pupils += got >= 0 ? 1 : 0; break;
      case "work": works += got >= 0 ? 1 : 0; break;
      case "rules":
        taken[0] += got >= 0 ? 1 : 0;
        taken[11] += got <= -1000 && got > -2000 ? 1 : 0;
        taken[12] += got == -7 ? 1 : 0;
        taken[13] += got == -5 ? 1 : 0;
        taken[14] += got <= -2000 && got > -3000 ? 1 : 0;
        taken[15] += got <= -3000 ? 1 : 0;
        break;
      case "range": taken[house.count(8) == 1 ? 1 : 2] += got < 1000000000 && a[2] < 4 ? 1 : 0;
        model.call("count", new int[] {8});
        break;
      case "least": taken[3] += got > 0 ? 1 : 0; break;
      case "hand": taken[4] += got > 0 ? 1 : 0; break;
      case "mark":
        taken[5] += got > 0 ? 1 : 0;
        taken[18] += got > 1 ? 1 : 0;
        break;
      case "show": taken[6] += got > 0 ? 1 : 0; break;
      case "appeal": taken[7] += got >= 0 ? 1 : 0; break;
      case "value":
        taken[8] += a[2] == 2 && got == 1 ? 1 : 0;
        taken[9] += a[2] == 2 && got == 2 ? 1 : 0;
        taken[10] += a[2] == 2 && got == 0 ? 1 : 0;
        taken[17] += a[2] == 1 && got > 1 ? 1 : 0;
        break;
      case "need": taken[16] += got == 1 && a[1] >= 0 ? 1 : 0; break;
      default:
    }
  }
}
