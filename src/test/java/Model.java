import java.math.BigInteger;
import java.util.ArrayDeque;
import java.util.ArrayList;
import java.util.Collections;
import java.util.Deque;
import java.util.HashMap;
import java.util.HashSet;
import java.util.List;
import java.util.Map;
import java.util.Set;
import java.util.TreeMap;

/**
 * The document once more, in the plainest way and with the whole Java library: events in lists,
 * trees of rules, great integers. ModelTest holds CourseHouse against it.
 */
final class Model {
  private static final BigInteger BOUND = BigInteger.valueOf(1000000000);
  private static final Set<String> LISTS = Set.of("max", "min", "mean", "best", "drop");
  private static final Set<String> BOUNDED = Set.of("cap", "pass");

  /** A refusal on its way to the caller. */
  private static final class Refused extends RuntimeException {
    private static final long serialVersionUID = 1;
    final int code;

    Refused(int code) {
      super(null, null, false, false);
      this.code = code;
    }
  }

  private static final class Work {
    int kind;
    int most;
    int due;
    int less;
    int need = -1;
    int number;
  }

  /** One hand-in; the marks of those who have it, null as long as there is none. */
  private static final class HandIn {
    int work;
    int tick;
    int by;
    final Map<Integer, Integer> marks = new TreeMap<>();
  }

  /** A peer's mark. */
  private static final class Shown {
    int work;
    int of;
    int by;
    int v;
  }

  /** A value: a fraction, or OUT, or LOST. */
  private static final class Value {
    static final Value OUT = new Value(BigInteger.ZERO, BigInteger.ONE, 0);
    static final Value LOST = new Value(BigInteger.ZERO, BigInteger.ONE, 2);
    final BigInteger up;
    final BigInteger low;
    final int state;

    private Value(BigInteger up, BigInteger low, int state) {
      this.up = up;
      this.low = low;
      this.state = state;
    }

    static Value of(BigInteger up, BigInteger low) {
      BigInteger by = up.gcd(low);
      BigInteger u = up.divide(by);
      BigInteger l = low.divide(by);
      return u.abs().compareTo(BOUND) > 0 || l.compareTo(BOUND) > 0 ? LOST : new Value(u, l, 1);
    }

    static Value of(long up, long low) {
      return of(BigInteger.valueOf(up), BigInteger.valueOf(low));
    }

    Value plus(Value o) {
      return of(up.multiply(o.low).add(o.up.multiply(low)), low.multiply(o.low));
    }

    Value times(Value o) {
      return of(up.multiply(o.up), low.multiply(o.low));
    }

    Value negated() {
      return of(up.negate(), low);
    }

    int compare(Value o) {
      return up.multiply(o.low).compareTo(o.up.multiply(low));
    }
  }

  /** A part of a rule. The op of a sum is "+", of a product "*"; each branch has its own sign. */
  private static final class Node {
    final String op;
    final int number;
    final List<Node> parts = new ArrayList<>();
    final List<String> signs = new ArrayList<>();

    Node(String op, int number) {
      this.op = op;
      this.number = number;
    }
  }

  private static final class Rule {
    String called;
    Node sum;
  }

  private static final class Word {
    final String is;
    final int place;

    Word(String is, int place) {
      this.is = is;
      this.place = place;
    }

    boolean isNumber() {
      return is.length() > 0 && Character.isDigit(is.charAt(0));
    }

    boolean isName() {
      return is.length() > 0 && Character.isLowerCase(is.charAt(0));
    }
  }

  private final List<Integer> groups = new ArrayList<>();
  private final List<Work> works = new ArrayList<>();
  private final List<HandIn> hands = new ArrayList<>();
  private final List<Shown> shows = new ArrayList<>();
  private final Map<String, Integer> leaves = new HashMap<>();
  private final Set<String> excused = new HashSet<>();
  private final StringBuilder text = new StringBuilder();
  private List<Rule> rules = new ArrayList<>();
  private boolean minus;
  private int now;
  private int appeals;
  private int badTexts;
  private final int[] refused = new int[8];

  // The calls.

  int call(String name, int[] a) {
    try {
      return answer(name, a);
    } catch (Refused r) {
      if (r.code <= -1000) {
        badTexts++;
      } else {
        refused[-r.code]++;
      }
      return name.equals("value") || name.equals("range") ? 2000000000 - r.code : r.code;
    }
  }

  private int answer(String name, int[] a) {
    switch (name) {
      case "pupil": return pupil();
      case "group": return group(a[0], a[1]);
      case "work": return work(a[0], a[1], a[2], a[3]);
      case "leave": return leave(a[0], a[1], a[2]);
      case "excuse": return excuse(a[0], a[1], a[2] != 0);
      case "tick": return tick(a[0]);
      case "text": return text(a);
      case "rules": return rules(a[0], a[1] != 0);
      case "name": return name(a[0]);
      case "hangs": return hangs(a[0], a[1]);
      case "need": return need(a[0], a[1], a[2]);
      case "opens": return opens(a[0], a[1]);
      case "hand": return hand(a[0], a[1]);
      case "mark": return mark(a[0], a[1], a[2]);
      case "peer": return peer(a[0], a[1], a[2]);
      case "show": return show(a[0], a[1], a[2], a[3]);
      case "appeal": return appeal(a[0], a[1], a[2]);
      case "markOf": return markOf(a[0], a[1], a[2]);
      case "value": return value(a[0], a[1], a[2]);
      case "range": return range(a[0], a[1], a[2]);
      case "least": return least(a[0], a[1], a[2], a[3]);
      default: return count(a[0]);
    }
  }

  private static void refuseIf(boolean so, int code) {
    if (so) {
      throw new Refused(code);
    }
  }

  private void mustBePupil(int p) {
    refuseIf(p < 0 || p >= groups.size(), -1);
  }

  private Work mustBeWork(int w) {
    refuseIf(w < 0 || w >= works.size(), -1);
    return works.get(w);
  }

  private void mustBeRule(int r) {
    refuseIf(r < 0 || r >= rules.size(), -1);
  }

  private static void within(int n, int least, int greatest) {
    refuseIf(n < least, -4);
    refuseIf(n > greatest, -6);
  }

  private int pupil() {
    refuseIf(groups.size() == 6, -6);
    groups.add(groups.size());
    return groups.size() - 1;
  }

  private int group(int p, int g) {
    mustBePupil(p);
    refuseIf(g < 0 || g > 5, -1);
    return groups.set(p, g);
  }

  private int work(int kind, int most, int due, int less) {
    refuseIf(kind < 0 || kind > 3, -1);
    refuseIf(most < 1 || due < 0 || less < 0, -4);
    refuseIf(most > 20 || due > 100000 || less > 100 || works.size() == 10, -6);
    Work made = new Work();
    made.kind = kind;
    made.most = most;
    made.due = due;
    made.less = less;
    works.add(made);
    return works.size() - 1;
  }

  private int leave(int p, int w, int ticks) {
    mustBePupil(p);
    mustBeWork(w);
    within(ticks, 0, 1000);
    Integer was = leaves.put(p + " " + w, ticks);
    return was == null ? 0 : was;
  }

  private int excuse(int p, int w, boolean on) {
    mustBePupil(p);
    mustBeWork(w);
    boolean changed = on ? excused.add(p + " " + w) : excused.remove(p + " " + w);
    return changed ? 1 : 0;
  }

  private int tick(int n) {
    refuseIf(n < 1, -4);
    refuseIf((long) now + n > 100000, -6);
    now += n;
    return now;
  }

  private int text(int[] a) {
    refuseIf(text.length() + 20 > 600, -6);
    for (int i = 0; i < 5; i++) {
      for (int k = 3; k >= 0; k--) {
        text.append((char) (a[i] >>> 8 * k & 255));
      }
    }
    return text.length();
  }

  private int rules(int n, boolean strict) {
    within(n, 0, text.length());
    String read = text.substring(0, n);
    text.setLength(0);
    List<Rule> fresh = read(read);
    for (int i = 0; i < fresh.size(); i++) {
      for (String named : named(fresh.get(i).sum, new ArrayList<>())) {
        refuseIf(find(fresh, named) < 0 && workNamed(named) < 0, -2000 - i);
      }
    }
    Set<String> seen = new HashSet<>();
    for (int i = 0; i < fresh.size(); i++) {
      refuseIf(!seen.add(fresh.get(i).called), -3000 - i);
    }
    for (Rule rule : fresh) {
      Set<String> below = new HashSet<>();
      for (String named : named(rule.sum, new ArrayList<>())) {
        hangOn(fresh, named, below);
      }
      refuseIf(below.contains(rule.called), -5);
    }
    for (Work work : works) {
      refuseIf(work.need >= fresh.size(), -3);
    }
    refuseIf(strict && lessens(fresh), -7);
    rules = fresh;
    minus = read.indexOf('-') >= 0;
    return rules.size();
  }

  private boolean lessens(List<Rule> fresh) {
    for (int p = 0; p < groups.size(); p++) {
      for (Rule rule : fresh) {
        int old = find(rules, rule.called);
        if (old >= 0) {
          Value was = valueOf(rules, rules.get(old).called, marks(p));
          Value is = valueOf(fresh, rule.called, marks(p));
          if (was.state == 1 && is.state == 1 && is.compare(was) < 0) {
            return true;
          }
        }
      }
    }
    return false;
  }

  private int name(int rule) {
    mustBeRule(rule);
    int made = 0;
    for (char c : rules.get(rule).called.toCharArray()) {
      made = 27 * made + (c - 'a' + 1);
    }
    return made;
  }

  private int hangs(int rule, int w) {
    mustBeRule(rule);
    mustBeWork(w);
    return below(rule).contains(workName(w)) ? 1 : 0;
  }

  private int need(int w, int rule, int n) {
    Work work = mustBeWork(w);
    if (rule != -1) {
      mustBeRule(rule);
    }
    within(n, 0, 9999);
    if (rule != -1) {
      refuseIf(below(rule).contains(workName(w)), -5);
    }
    work.need = rule;
    work.number = n;
    return 1;
  }

  private int opens(int p, int w) {
    mustBePupil(p);
    Work work = mustBeWork(w);
    if (work.need == -1) {
      return 1;
    }
    Value value = valueOf(rules, rules.get(work.need).called, marks(p));
    return value.state == 1 && value.compare(Value.of(work.number, 1)) >= 0 ? 1 : 0;
  }

  private int hand(int p, int w) {
    mustBePupil(p);
    Work work = mustBeWork(w);
    refuseIf(excused.contains(p + " " + w), -3);
    refuseIf(opens(p, w) == 0, -3);
    List<Integer> who = new ArrayList<>();
    if (work.kind == 1) {
      for (int q = 0; q < groups.size(); q++) {
        if (groups.get(q).equals(groups.get(p))) {
          who.add(q);
        }
      }
    } else {
      who.add(p);
    }
    for (int q : who) {
      List<HandIn> own = handsOf(q, w);
      HandIn last = own.isEmpty() ? null : own.get(own.size() - 1);
      boolean marked = last != null && last.marks.get(q) != null;
      if (work.kind == 2) {
        refuseIf(own.size() == 3 || last != null && !marked, -3);
      } else if (work.kind == 3) {
        refuseIf(last != null, -3);
      } else {
        refuseIf(marked, -3);
      }
    }
    HandIn made = new HandIn();
    made.work = w;
    made.tick = now;
    made.by = p;
    for (int q : who) {
      made.marks.put(q, null);
    }
    hands.add(made);
    return who.size();
  }

  private int mark(int p, int w, int v) {
    mustBePupil(p);
    Work work = mustBeWork(w);
    refuseIf(work.kind == 3, -3);
    HandIn last = latest(p, w);
    refuseIf(last == null || last.marks.get(p) != null, -3);
    within(v, 0, work.most);
    int many = 0;
    for (int q = 0; q < groups.size(); q++) {
      HandIn other = latest(q, w);
      boolean same = work.kind == 1 ? other != null && other.tick == last.tick && other.by == last.by : q == p;
      if (same && other.marks.get(q) == null) {
        other.marks.put(q, v);
        many++;
      }
    }
    return many;
  }

  private int peer(int p, int w, int i) {
    mustBePupil(p);
    Work work = mustBeWork(w);
    refuseIf(work.kind != 3 || latest(p, w) == null, -3);
    List<Integer> found = peers(p, w);
    return i >= 0 && i < found.size() ? found.get(i) : -9;
  }

  private List<Integer> peers(int p, int w) {
    List<Integer> all = new ArrayList<>();
    for (int q = p + 1; q < groups.size(); q++) {
      all.add(q);
    }
    for (int q = 0; q < p; q++) {
      all.add(q);
    }
    all.removeIf(q -> latest(q, w) == null);
    return all.subList(0, Math.min(2, all.size()));
  }

  private int show(int by, int p, int w, int v) {
    mustBePupil(by);
    mustBePupil(p);
    Work work = mustBeWork(w);
    refuseIf(work.kind != 3 || latest(p, w) == null || !peers(p, w).contains(by), -3);
    refuseIf(shown(p, w).stream().anyMatch(s -> s.by == by), -3);
    within(v, 0, work.most);
    Shown made = new Shown();
    made.work = w;
    made.of = p;
    made.by = by;
    made.v = v;
    shows.add(made);
    return shown(p, w).size();
  }

  private int appeal(int p, int w, int v) {
    mustBePupil(p);
    Work work = mustBeWork(w);
    HandIn last = null;
    for (HandIn one : handsOf(p, w)) {
      if (one.marks.get(p) != null) {
        last = one;
      }
    }
    refuseIf(work.kind == 3 || last == null, -3);
    within(v, 0, work.most);
    appeals++;
    return last.marks.put(p, v);
  }

  private int markOf(int p, int w, int what) {
    mustBePupil(p);
    mustBeWork(w);
    refuseIf(what < 0 || what > 4, -2);
    Value mark = mark(p, w);
    HandIn last = latest(p, w);
    if (what == 2) {
      return mark.state == 0 ? 0 : isMarked(p, w) ? 1 : 2;
    }
    if (what == 3) {
      return last == null ? -9 : days(p, last);
    }
    return what == 4 ? handsOf(p, w).size() : (what == 0 ? mark.up : mark.low).intValue();
  }

  private int value(int p, int rule, int what) {
    mustBePupil(p);
    mustBeRule(rule);
    refuseIf(what < 0 || what > 2, -2);
    Value value = valueOf(rules, rules.get(rule).called, marks(p));
    return what == 2 ? value.state : (what == 0 ? value.up : value.low).intValue();
  }

  private int range(int p, int rule, int what) {
    mustBePupil(p);
    mustBeRule(rule);
    refuseIf(what < 0 || what > 4, -2);
    List<Integer> open = new ArrayList<>();
    Set<String> below = below(rule);
    for (int w = 0; w < works.size(); w++) {
      if (isOpenEnded(p, w) && below.contains(workName(w))) {
        open.add(w);
      }
    }
    if (what == 4) {
      return open.size();
    }
    refuseIf(minus && open.size() > 3, -3);
    List<Value> found = new ArrayList<>();
    Map<String, Value> marks = marks(p);
    if (minus) {
      tryAll(rule, open, 0, marks, found);
    } else {
      for (int end = 0; end < 2; end++) {
        for (int w = 0; w < works.size(); w++) {
          if (isOpenEnded(p, w)) {
            marks.put(workName(w), Value.of(end * works.get(w).most, 1));
          }
        }
        found.add(valueOf(rules, rules.get(rule).called, marks));
      }
    }
    found.removeIf(v -> v.state != 1);
    refuseIf(found.isEmpty(), -3);
    Value end = what < 2 ? Collections.min(found, Value::compare) : Collections.max(found, Value::compare);
    return (what % 2 == 0 ? end.up : end.low).intValue();
  }

  private void tryAll(int rule, List<Integer> open, int from, Map<String, Value> marks, List<Value> found) {
    if (from == open.size()) {
      found.add(valueOf(rules, rules.get(rule).called, marks));
      return;
    }
    int w = open.get(from);
    for (int v = 0; v <= works.get(w).most; v++) {
      marks.put(workName(w), Value.of(v, 1));
      tryAll(rule, open, from + 1, marks, found);
    }
  }

  private int least(int p, int rule, int w, int n) {
    mustBePupil(p);
    mustBeRule(rule);
    Work work = mustBeWork(w);
    refuseIf(!isOpenEnded(p, w), -3);
    within(n, 0, 9999);
    for (int v = 0; v <= work.most; v++) {
      Map<String, Value> marks = marks(p);
      marks.put(workName(w), Value.of(v, 1));
      Value value = valueOf(rules, rules.get(rule).called, marks);
      if (value.state == 1 && value.compare(Value.of(n, 1)) >= 0) {
        return v;
      }
    }
    return -9;
  }

  private int count(int what) {
    switch (what) {
      case 0: return groups.size();
      case 1: return works.size();
      case 2: return rules.size();
      case 3: return now;
      case 4: return text.length();
      case 5: return hands.stream().mapToInt(h -> h.marks.size()).sum();
      case 6: return shows.size() + hands.stream()
          .mapToInt(h -> (int) h.marks.values().stream().filter(v -> v != null).count()).sum();
      case 7: return appeals;
      case 8: return minus ? 1 : 0;
      case 18: return badTexts;
      default: return what >= 11 && what <= 17 ? refused[what - 10] : -9;
    }
  }

  // Marks.

  private List<HandIn> handsOf(int p, int w) {
    List<HandIn> found = new ArrayList<>(hands);
    found.removeIf(h -> h.work != w || !h.marks.containsKey(p));
    return found;
  }

  private HandIn latest(int p, int w) {
    List<HandIn> own = handsOf(p, w);
    return own.isEmpty() ? null : own.get(own.size() - 1);
  }

  private List<Shown> shown(int p, int w) {
    List<Shown> found = new ArrayList<>(shows);
    found.removeIf(s -> s.of != p || s.work != w);
    return found;
  }

  private boolean isMarked(int p, int w) {
    return !shown(p, w).isEmpty() || handsOf(p, w).stream().anyMatch(h -> h.marks.get(p) != null);
  }

  private boolean isOpenEnded(int p, int w) {
    return !excused.contains(p + " " + w) && !isMarked(p, w);
  }

  private int days(int p, HandIn hand) {
    int by = works.get(hand.work).due + leaves.getOrDefault(p + " " + hand.work, 0);
    int days = 0;
    while (hand.tick > by + 24 * days) {
      days++;
    }
    return days;
  }

  private Value lessened(int p, HandIn hand, Value v) {
    int share = 100 - works.get(hand.work).less * days(p, hand);
    return v.times(Value.of(Math.max(0, share), 100));
  }

  private Value mark(int p, int w) {
    if (excused.contains(p + " " + w)) {
      return Value.OUT;
    }
    Value best = Value.of(0, 1);
    List<Shown> shown = shown(p, w);
    if (!shown.isEmpty()) {
      return lessened(p, latest(p, w), Value.of(shown.stream().mapToInt(s -> s.v).sum(), shown.size()));
    }
    for (HandIn one : handsOf(p, w)) {
      Integer v = one.marks.get(p);
      if (v != null) {
        Value here = lessened(p, one, Value.of(v, 1));
        best = here.compare(best) > 0 ? here : best;
      }
    }
    return best;
  }

  private Map<String, Value> marks(int p) {
    Map<String, Value> found = new HashMap<>();
    for (int w = 0; w < works.size(); w++) {
      found.put(workName(w), mark(p, w));
    }
    return found;
  }

  // Rules.

  private static String workName(int w) {
    return "w" + (char) ('a' + w);
  }

  private int workNamed(String name) {
    for (int w = 0; w < works.size(); w++) {
      if (workName(w).equals(name)) {
        return w;
      }
    }
    return -1;
  }

  private static int find(List<Rule> in, String name) {
    for (int i = 0; i < in.size(); i++) {
      if (in.get(i).called.equals(name)) {
        return i;
      }
    }
    return -1;
  }

  private static List<String> named(Node node, List<String> into) {
    if (node.op.startsWith("=")) {
      into.add(node.op.substring(1));
    }
    for (Node part : node.parts) {
      named(part, into);
    }
    return into;
  }

  /** Adds a name and all that it hangs on. */
  private void hangOn(List<Rule> in, String name, Set<String> into) {
    if (!into.add(name)) {
      return;
    }
    int rule = find(in, name);
    if (rule >= 0) {
      for (String named : named(in.get(rule).sum, new ArrayList<>())) {
        hangOn(in, named, into);
      }
      return;
    }
    int need = workNamed(name) < 0 ? -1 : works.get(workNamed(name)).need;
    if (need >= 0 && need < in.size()) {
      hangOn(in, in.get(need).called, into);
    }
  }

  private Set<String> below(int rule) {
    Set<String> found = new HashSet<>();
    for (String named : named(rules.get(rule).sum, new ArrayList<>())) {
      hangOn(rules, named, found);
    }
    return found;
  }

  private static Value valueOf(List<Rule> in, String name, Map<String, Value> marks) {
    return valueOf(in, name, marks, new HashMap<>());
  }

  private static Value valueOf(List<Rule> in, String name, Map<String, Value> marks, Map<String, Value> known) {
    int rule = find(in, name);
    if (rule < 0) {
      return marks.get(name);
    }
    if (!known.containsKey(name)) {
      known.put(name, valueOf(in, in.get(rule).sum, marks, known));
    }
    return known.get(name);
  }

  private static Value valueOf(List<Rule> in, Node node, Map<String, Value> marks, Map<String, Value> known) {
    if (node.op.startsWith("=")) {
      return valueOf(in, node.op.substring(1), marks, known);
    }
    if (node.op.equals("number")) {
      return Value.of(node.number, 1);
    }
    List<Value> parts = new ArrayList<>();
    for (Node part : node.parts) {
      parts.add(valueOf(in, part, marks, known));
    }
    if (parts.contains(Value.LOST)) {
      return Value.LOST;
    }
    if (node.op.equals("*")) {
      return product(node, parts);
    }
    List<Value> left = new ArrayList<>();
    for (int i = 0; i < parts.size(); i++) {
      if (parts.get(i) != Value.OUT) {
        left.add(node.op.equals("+") && node.signs.get(i).equals("-") ? parts.get(i).negated() : parts.get(i));
      }
    }
    if (left.isEmpty()) {
      return Value.OUT;
    }
    return ofAll(node, left);
  }

  private static Value product(Node node, List<Value> parts) {
    if (parts.contains(Value.OUT)) {
      return Value.OUT;
    }
    Value so = parts.get(0);
    for (int i = 1; i < parts.size() && so != Value.LOST; i++) {
      Value next = parts.get(i);
      so = so.times(node.signs.get(i).equals("/") ? Value.of(next.low, next.up) : next);
    }
    return so;
  }

  private static Value ofAll(Node node, List<Value> all) {
    List<Value> down = new ArrayList<>(all);
    down.sort((x, y) -> y.compare(x));
    Value number = Value.of(node.number, 1);
    int many = all.size();
    switch (node.op) {
      case "+": return sum(all);
      case "max": return down.get(0);
      case "min": return down.get(many - 1);
      case "mean": Value sum = sum(all);
        return sum == Value.LOST ? sum : sum.times(Value.of(1, many));
      case "best": return sum(down.subList(0, Math.min(node.number, many)));
      case "drop": return sum(down.subList(0, Math.max(0, many - node.number)));
      case "cap": return all.get(0).compare(number) < 0 ? all.get(0) : number;
      default: return Value.of(all.get(0).compare(number) >= 0 ? 1 : 0, 1);
    }
  }

  private static Value sum(List<Value> all) {
    Value so = Value.of(0, 1);
    for (Value one : all) {
      so = so.plus(one);
      if (so == Value.LOST) {
        return so;
      }
    }
    return so;
  }

  // Reading: first a machine that expects symbols and finds the fault, then the trees.

  private static List<Word> words(String text) {
    List<Word> found = new ArrayList<>();
    int at = 0;
    while (at < text.length()) {
      char c = text.charAt(at);
      int to = at + 1;
      boolean digit = c >= '0' && c <= '9';
      boolean letter = c >= 'a' && c <= 'z';
      while (to < text.length() && (digit && text.substring(to, to + 1).matches("[0-9]")
          || letter && text.substring(to, to + 1).matches("[a-z]"))) {
        to++;
      }
      if (c != ' ') {
        boolean word = to - at <= 4 && (digit || letter || "=;+-*/(),".indexOf(c) >= 0);
        found.add(new Word(word ? text.substring(at, to) : "?", at));
      }
      at = to;
    }
    found.add(new Word("", text.length()));
    return found;
  }

  private List<Rule> read(String text) {
    List<Word> words = words(text);
    Deque<String> due = new ArrayDeque<>();
    due.push("RULES 0");
    int at = 0;
    int depth = 0;
    while (!due.isEmpty()) {
      String symbol = due.pop();
      Word word = words.get(at);
      if (symbol.matches("[A-Z]+( \\d+)?")) {
        List<String> more = expand(symbol, word);
        refuseIf(more == null, -1000 - word.place);
        for (int i = more.size() - 1; i >= 0; i--) {
          due.push(more.get(i));
        }
        continue;
      }
      refuseIf(!fits(symbol, word) || word.is.equals("(") && depth == 8, -1000 - word.place);
      depth += word.is.equals("(") ? 1 : word.is.equals(")") ? -1 : 0;
      at++;
    }
    return trees(words);
  }

  private static boolean fits(String symbol, Word word) {
    switch (symbol) {
      case "number": return word.isNumber();
      case "divisor": return word.isNumber() && Integer.parseInt(word.is) != 0;
      case "fresh": return word.isName() && !LISTS.contains(word.is) && !BOUNDED.contains(word.is)
          && !word.is.matches("w[a-j]");
      case "'": return true;
      default: return symbol.equals(word.is);
    }
  }

  /** What a symbol becomes before a word, or null if it can't stand there. */
  private static List<String> expand(String symbol, Word word) {
    String[] parts = symbol.split(" ");
    int many = parts.length > 1 ? Integer.parseInt(parts[1]) : 0;
    switch (parts[0]) {
      case "RULES":
        if (word.is.isEmpty() && many > 0) {
          return List.of();
        }
        return many == 12 ? null : List.of("fresh", "=", "SUM", ";", "RULES " + (many + 1));
      case "SUM":
        return List.of("PRODUCT", "SUMREST");
      case "SUMREST":
        return word.is.equals("+") || word.is.equals("-") ? List.of(word.is, "PRODUCT", "SUMREST") : List.of();
      case "PRODUCT":
        return List.of("PART", "PRODUCTREST");
      case "PRODUCTREST":
        if (word.is.equals("*")) {
          return List.of("*", "PART", "PRODUCTREST");
        }
        return word.is.equals("/") ? List.of("/", "divisor", "PRODUCTREST") : List.of();
      case "LISTREST":
        return word.is.equals(",") && many < 10 ? List.of(",", "SUM", "LISTREST " + (many + 1)) : List.of();
      default:
        return expandPart(word);
    }
  }

  private static List<String> expandPart(Word word) {
    if (word.isNumber()) {
      return List.of("number");
    }
    if (word.is.equals("(")) {
      return List.of("(", "SUM", ")");
    }
    if (BOUNDED.contains(word.is)) {
      return List.of(word.is, "(", "SUM", ",", "number", ")");
    }
    if (word.is.equals("best") || word.is.equals("drop")) {
      return List.of(word.is, "number", "(", "SUM", "LISTREST 1", ")");
    }
    if (LISTS.contains(word.is)) {
      return List.of(word.is, "(", "SUM", "LISTREST 1", ")");
    }
    return word.isName() ? List.of("'") : null;
  }

  private List<Word> read;
  private int next;

  private String take() {
    return read.get(next++).is;
  }

  private boolean takes(String... signs) {
    return List.of(signs).contains(read.get(next).is);
  }

  private List<Rule> trees(List<Word> words) {
    read = words;
    next = 0;
    List<Rule> made = new ArrayList<>();
    while (!takes("")) {
      Rule rule = new Rule();
      rule.called = take();
      take();
      rule.sum = sum();
      take();
      made.add(rule);
    }
    return made;
  }

  private Node sum() {
    Node node = new Node("+", 0);
    String sign = "+";
    while (true) {
      node.parts.add(product());
      node.signs.add(sign);
      if (!takes("+", "-")) {
        return node;
      }
      sign = take();
    }
  }

  private Node product() {
    Node node = new Node("*", 0);
    String sign = "*";
    while (true) {
      node.parts.add(part());
      node.signs.add(sign);
      if (!takes("*", "/")) {
        return node;
      }
      sign = take();
    }
  }

  private Node part() {
    Word word = read.get(next++);
    if (word.isNumber()) {
      return new Node("number", Integer.parseInt(word.is));
    }
    if (word.is.equals("(")) {
      Node inner = sum();
      take();
      return inner;
    }
    if (BOUNDED.contains(word.is)) {
      take();
      Node inner = sum();
      take();
      Node node = new Node(word.is, Integer.parseInt(take()));
      node.parts.add(inner);
      take();
      return node;
    }
    if (!LISTS.contains(word.is)) {
      return new Node("=" + word.is, 0);
    }
    Node node = new Node(word.is, read.get(next).isNumber() ? Integer.parseInt(take()) : 0);
    take();
    node.parts.add(sum());
    while (takes(",")) {
      take();
      node.parts.add(sum());
    }
    take();
    return node;
  }
}
