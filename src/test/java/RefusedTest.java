import java.util.ArrayList;
import java.util.List;

/**
 * "REFUSALS (... nothing changes but how many there were)": each refusal that the document tells, on
 * both sides of each boundary. One object gets the refused call, its twin does not; whatever is asked
 * of both afterwards, they must answer alike, but for the count of that refusal.
 */
public final class RefusedTest {
  private static final Checks CHECKS = new Checks();
  private static final int PARTS = 8;

  /** Of each kind of work, each state that it can be in; the clock, the text and the rules in use. */
  private static final String SOME = """
      some
      3 x pupil
      group 1 0
      work 0 5 0 10
      work 1 5 0 10
      work 2 5 0 10
      work 3 5 0 10
      work 0 5 0 0
      work 0 7 50 5
      rules 'a=wa-wb-wc-wd;b=9999*9999*9999;c=wa+3;' -> 3
      need 4 2 4 -> 1
      leave 0 0 5
      excuse 2 0 1
      tick 30
      hand 0 0 -> 1
      hand 1 0 -> 1
      mark 1 0 4 -> 1
      hand 0 1 -> 2
      hand 2 1 -> 1
      mark 2 1 3 -> 1
      hand 0 2 -> 1
      mark 0 2 1 -> 1
      hand 0 2 -> 1
      hand 1 2 -> 1
      mark 1 2 1 -> 1
      hand 1 2 -> 1
      mark 1 2 2 -> 1
      hand 1 2 -> 1
      mark 1 2 3 -> 1
      hand 0 3 -> 1
      hand 1 3 -> 1
      show 1 0 3 4 -> 1
      appeal 1 0 5 -> 4
      text 'q = 7; r = q - 1;' -> 20
      """;

  /** As many pupils and works as there may be, the last tick, the longest text. */
  private static final String FULL = """
      full
      6 x pupil
      5 x work 0 5 0 10
      5 x work 3 5 0 10
      rules 'a=wa+wb+wc;b=wd-wa;c=wj;' -> 3
      tick 100000 -> 100000
      hand 0 0
      mark 0 0 5
      hand 1 9
      hand 5 9
      show 5 1 9 3 -> 1
      text 'q = 7; r = q - 1;' -> 20
      29 x text 538976288 538976288 538976288 538976288 538976288
      """;

  public static void main(String[] args) {
    pupilsAndWorks();
    clockAndText();
    rules();
    namesAndNeeds();
    handsAndMarks();
    peersAndAppeals();
    asked();
    ranges();
    noneSuch();
    CHECKS.end();
  }

  private static void refused(String scene, int code, String asked) {
    compare(scene, asked + " -> " + (asked.matches("(value|range) .*") ? 2000000000 - code : code), "", code);
  }

  /** A text that is refused: it is gone, as the twin's is, which is refused for nothing. */
  private static void refusedText(String text, int code, String scene) {
    int length = 20 * ((text.length() + 19) / 20);
    String blank = " ".repeat(length - text.length());
    compare(scene + "rules 0 0 -> -1000\ntext '" + text + blank + "' -> " + length,
        "rules " + length + " 0 -> " + code, "rules 0 0 -> -1000", code);
  }

  private static void refusedStrict(String text) {
    compare(SOME + "rules 0 0\ntext '" + text + "' -> 20", "rules 20 1 -> -7", "rules 0 0 -> -1000", -7);
  }

  private static void compare(String scene, String asked, String askedOfTwin, int code) {
    for (int part = 0; part < PARTS; part++) {
      Told one = Told.made(CHECKS, scene);
      Told twin = Told.made(CHECKS, scene);
      one.step(asked);
      if (!askedOfTwin.isEmpty()) {
        twin.step(askedOfTwin);
      }
      List<Integer> got = ask(one, part);
      List<Integer> want = ask(twin, part);
      // The counts are asked last, from 0 to 18.
      int counts = want.size() - 19;
      if (code > -1000) {
        add(want, counts + 10 - code, 1);
        add(want, counts + 18, askedOfTwin.isEmpty() ? 0 : -1);
      }
      CHECKS.due(asked + ": answers of part " + part, got.size(), want.size());
      for (int i = 0; i < Math.min(got.size(), want.size()); i++) {
        CHECKS.due(asked + ": part " + part + ", answer " + i, got.get(i), want.get(i));
      }
      one.end();
    }
  }

  private static void add(List<Integer> row, int at, int more) {
    row.set(at, row.get(at) + more);
  }

  /** One part of all that can be asked, and the counts behind it. */
  private static List<Integer> ask(Told x, int part) {
    int pupils = x.call("count", 0);
    int works = x.call("count", 1);
    int rules = x.call("count", 2);
    List<Integer> got = new ArrayList<>();
    for (int p = 0; p < pupils; p++) {
      for (int w = 0; w < works; w++) {
        askMark(x, part, p, w, got);
      }
      for (int r = 0; r < rules; r++) {
        askRule(x, part, p, r, works, got);
      }
      if (part == 4) {
        got.add(x.call("group", p, 1));
      }
    }
    if (part == 7) {
      askText(x, pupils, got);
    }
    for (int what = 0; what <= 18; what++) {
      got.add(x.call("count", what));
    }
    return got;
  }

  private static void askMark(Told x, int part, int p, int w, List<Integer> got) {
    switch (part) {
      case 0:
        got.add(x.call("opens", p, w));
        got.add(x.call("peer", p, w, 0));
        got.add(x.call("peer", p, w, 1));
        break;
      case 1:
        for (int what = 0; what <= 4; what++) {
          got.add(x.call("markOf", p, w, what));
        }
        break;
      case 4:
        got.add(x.call("leave", p, w, 7));
        got.add(x.call("excuse", p, w, 1));
        break;
      case 5:
        got.add(x.call("mark", p, w, 2));
        got.add(x.call("hand", p, w));
        got.add(x.call("markOf", p, w, 4));
        break;
      case 6:
        got.add(x.call("appeal", p, w, 1));
        got.add(x.call("show", 1, p, w, 1));
        got.add(x.call("show", 0, p, w, 2));
        break;
      default:
    }
  }

  private static void askRule(Told x, int part, int p, int r, int works, List<Integer> got) {
    if (part == 2) {
      for (int what = 0; what <= 2; what++) {
        got.add(x.call("value", p, r, what));
      }
      for (int what = 0; what <= 4; what++) {
        got.add(x.call("range", p, r, what));
      }
    }
    for (int w = 0; part == 3 && w < works; w++) {
      got.add(x.call("least", p, r, w, 4));
    }
    for (int w = 0; part == 0 && p == 0 && w < works; w++) {
      got.add(x.call("hangs", r, w));
    }
    if (part == 0 && p == 0) {
      got.add(x.call("name", r));
    }
  }

  /** What the text holds and what more there is room for. */
  private static void askText(Told x, int pupils, List<Integer> got) {
    got.add(x.call("pupil"));
    got.add(x.call("work", 0, 3, 0, 0));
    got.add(x.call("tick", 3));
    got.add(x.call("need", 4, -1, 0));
    int length = x.call("count", 4);
    got.add(x.call("rules", length, 0));
    for (int r = 0; r < x.call("count", 2) && pupils > 0; r++) {
      got.add(x.call("name", r));
      got.add(x.call("value", 0, r, 0));
      got.add(x.call("value", 0, r, 2));
    }
  }

  private static void pupilsAndWorks() {
    refused(FULL, -6, "pupil");
    refused(SOME, -1, "group -1 0");
    refused(SOME, -1, "group 3 0");
    refused(SOME, -1, "group 0 -1");
    refused(SOME, -1, "group 0 6");
    refused(SOME, -1, "work -1 1 0 0");
    refused(SOME, -1, "work 4 1 0 0");
    refused(SOME, -4, "work 0 0 0 0");
    refused(SOME, -4, "work 0 1 -1 0");
    refused(SOME, -4, "work 0 1 0 -1");
    refused(SOME, -6, "work 0 21 0 0");
    refused(SOME, -6, "work 0 1 100001 0");
    refused(SOME, -6, "work 0 1 0 101");
    refused(FULL, -6, "work 0 1 0 0");
    refused(SOME, -1, "leave -1 0 9");
    refused(SOME, -1, "leave 3 0 9");
    refused(SOME, -1, "leave 0 -1 9");
    refused(SOME, -1, "leave 0 6 9");
    refused(SOME, -4, "leave 0 0 -1");
    refused(SOME, -6, "leave 0 0 1001");
    refused(SOME, -1, "excuse -1 0 1");
    refused(SOME, -1, "excuse 3 0 1");
    refused(SOME, -1, "excuse 0 -1 1");
    refused(SOME, -1, "excuse 0 6 1");
  }

  private static void clockAndText() {
    refused(SOME, -4, "tick 0");
    refused(SOME, -4, "tick -1");
    refused(SOME, -6, "tick 99971");
    refused(SOME, -6, "tick 2147483647");
    refused(FULL, -6, "tick 1");
    refused(FULL, -6, "text 0 0 0 0 0");
    refused(FULL, -4, "rules -1 0");
    refused(FULL, -6, "rules 601 0");
    refused(SOME, -4, "rules -2147483648 1");
    refused(SOME, -6, "rules 21 1");
    refused(FULL, -6, "rules 2147483647 1");
  }

  private static void rules() {
    refusedText("a=1;c=+;", -1006, SOME);
    refusedText("#", -1000, FULL);
    refusedText("a=wa;c=wg;d=x;", -2001, SOME);
    refusedText("a=wz;", -2000, FULL);
    refusedText("a=1;c=1;d=1;c=2;", -3003, SOME);
    refusedText("a=a;", -5, FULL);
    refusedText("a=1;b=we;c=b-1;", -5, SOME);
    refusedText("a=0;b=2-1;", -3, SOME);
    refusedStrict("c=wa+2;a=0;d=1-1;   ");
  }

  private static void namesAndNeeds() {
    refused(SOME, -1, "name -1");
    refused(SOME, -1, "name 3");
    refused(SOME, -1, "hangs -1 0");
    refused(SOME, -1, "hangs 3 0");
    refused(SOME, -1, "hangs 0 -1");
    refused(SOME, -1, "hangs 0 6");
    refused(SOME, -1, "need -1 2 9");
    refused(SOME, -1, "need 6 2 9");
    refused(SOME, -1, "need 4 -2 9");
    refused(SOME, -1, "need 4 3 9");
    refused(SOME, -4, "need 4 -1 -1");
    refused(SOME, -4, "need 4 1 -1");
    refused(SOME, -6, "need 4 -1 10000");
    refused(SOME, -6, "need 4 1 10000");
    refused(SOME, -5, "need 0 2 0");
    refused(SOME, -1, "opens -1 0");
    refused(SOME, -1, "opens 3 0");
    refused(SOME, -1, "opens 0 -1");
    refused(SOME, -1, "opens 0 6");
  }

  private static void handsAndMarks() {
    refused(SOME, -1, "hand -1 0");
    refused(SOME, -1, "hand 3 0");
    refused(SOME, -1, "hand 0 -1");
    refused(SOME, -1, "hand 0 6");
    // Excused; not open; marked; one of the group marked; the try ahead not marked; a fourth try; twice.
    refused(SOME, -3, "hand 2 0");
    refused(SOME, -3, "hand 0 4");
    refused(SOME, -3, "hand 1 0");
    refused(SOME + "group 2 0", -3, "hand 0 1");
    refused(SOME, -3, "hand 2 1");
    refused(SOME, -3, "hand 0 2");
    refused(SOME, -3, "hand 1 2");
    refused(SOME, -3, "hand 1 3");
    refused(SOME, -1, "mark -1 0 1");
    refused(SOME, -1, "mark 3 0 1");
    refused(SOME, -1, "mark 0 -1 1");
    refused(SOME, -1, "mark 0 6 1");
    refused(SOME, -3, "mark 0 5 1");
    refused(SOME, -3, "mark 1 0 1");
    refused(SOME, -3, "mark 2 1 1");
    refused(SOME, -3, "mark 1 2 1");
    refused(SOME, -3, "mark 2 2 1");
    refused(SOME, -3, "mark 1 3 1");
    refused(SOME, -3, "mark 2 3 1");
    refused(SOME, -4, "mark 0 0 -1");
    refused(SOME, -4, "mark 0 1 -1");
    refused(SOME, -4, "mark 0 2 -1");
    refused(SOME, -6, "mark 0 0 6");
    refused(SOME, -6, "mark 0 1 6");
    refused(SOME, -6, "mark 0 2 6");
  }

  private static void peersAndAppeals() {
    refused(SOME, -1, "peer -1 3 0");
    refused(SOME, -1, "peer 3 3 0");
    refused(SOME, -1, "peer 0 -1 0");
    refused(SOME, -1, "peer 0 6 0");
    refused(SOME, -3, "peer 0 0 0");
    refused(SOME, -3, "peer 0 1 0");
    refused(SOME, -3, "peer 0 2 0");
    refused(SOME, -3, "peer 2 3 0");
    refused(SOME, -1, "show -1 1 3 1");
    refused(SOME, -1, "show 3 1 3 1");
    refused(SOME, -1, "show 0 -1 3 1");
    refused(SOME, -1, "show 0 3 3 1");
    refused(SOME, -1, "show 0 1 -1 1");
    refused(SOME, -1, "show 0 1 6 1");
    // Not a SHOWN one, though both handed it in; itself; not handed in by either; marked already.
    refused(SOME, -3, "show 0 1 0 1");
    refused(SOME, -3, "show 1 0 1 1");
    refused(SOME, -3, "show 0 1 2 1");
    refused(SOME, -3, "show 0 0 3 1");
    refused(SOME, -3, "show 2 0 3 1");
    refused(SOME, -3, "show 0 2 3 1");
    refused(SOME, -3, "show 1 0 3 1");
    refused(SOME, -4, "show 0 1 3 -1");
    refused(SOME, -6, "show 0 1 3 6");
    refused(SOME, -1, "appeal -1 0 1");
    refused(SOME, -1, "appeal 3 0 1");
    refused(SOME, -1, "appeal 0 -1 1");
    refused(SOME, -1, "appeal 0 6 1");
    refused(SOME, -3, "appeal 0 0 1");
    refused(SOME, -3, "appeal 0 1 1");
    refused(SOME, -3, "appeal 2 2 1");
    refused(SOME, -3, "appeal 0 3 1");
    refused(SOME, -3, "appeal 0 5 1");
    refused(SOME, -4, "appeal 1 0 -1");
    refused(SOME, -4, "appeal 0 2 -1");
    refused(SOME, -6, "appeal 1 0 6");
    refused(SOME, -6, "appeal 0 2 6");
  }

  private static void asked() {
    refused(SOME, -1, "markOf -1 0 0");
    refused(SOME, -1, "markOf 3 0 0");
    refused(SOME, -1, "markOf 0 -1 0");
    refused(SOME, -1, "markOf 0 6 0");
    refused(SOME, -2, "markOf 0 0 -1");
    refused(SOME, -2, "markOf 0 0 5");
    refused(SOME, -1, "value -1 0 0");
    refused(SOME, -1, "value 3 0 0");
    refused(SOME, -1, "value 0 -1 0");
    refused(SOME, -1, "value 0 3 0");
    refused(SOME, -2, "value 0 0 -1");
    refused(SOME, -2, "value 0 0 3");
    refused(SOME, -1, "least -1 0 0 1");
    refused(SOME, -1, "least 3 0 0 1");
    refused(SOME, -1, "least 0 -1 0 1");
    refused(SOME, -1, "least 0 3 0 1");
    refused(SOME, -1, "least 0 0 -1 1");
    refused(SOME, -1, "least 0 0 6 1");
    refused(SOME, -3, "least 2 0 0 1");
    refused(SOME, -3, "least 1 0 0 1");
    refused(SOME, -3, "least 0 0 2 1");
    refused(SOME, -3, "least 0 0 3 1");
    refused(SOME, -4, "least 0 0 0 -1");
    refused(SOME, -6, "least 0 0 0 10000");
  }

  private static void ranges() {
    refused(SOME, -1, "range -1 0 0");
    refused(SOME, -1, "range 3 0 0");
    refused(SOME, -1, "range 0 -1 0");
    refused(SOME, -1, "range 0 3 0");
    refused(SOME, -2, "range 0 0 -1");
    refused(SOME, -2, "range 0 0 5");
    for (int what = 0; what <= 3; what++) {
      refused(SOME, -3, "range 0 1 " + what);
      refused(SOME + "rules 0 0 -> -1000\nrules 'a=wa-wb-wc-wd-we-wf;b=we;c=wf;' -> 3", -3, "range 0 0 " + what);
    }
  }

  /** What is none such is answered by -9 and is no refusal: not even a count changes. */
  private static void noneSuch() {
    String[] asked = {"peer 0 3 1", "peer 0 3 2", "peer 0 3 -1", "least 0 0 0 9999", "markOf 2 3 3", "count -1",
        "count 9", "count 10", "count 19", "count 2147483647", "count -2147483648"};
    for (String one : asked) {
      // The counts from 11 on are those of refusals; one that is added to none is a count of its own.
      compare(SOME, one + " -> -9", "", -1000);
    }
  }
}
