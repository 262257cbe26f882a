import java.util.Arrays;

/**
 * Runs told as text: in the first line what the document says, in each further one a call on a new
 * object and, behind "->", the answer that is due. Beside the calls of CourseHouse there are:
 *
 * <pre>
 * 6 x pupil                      a call so many times over
 * marks 3 - out                  a pupil, and a work for each word: marked so, not marked, excused
 * text 'a = 1;'                  a text in pieces of twenty bytes; the answer is the last one's
 * rules 'a = 1;' -> 1            a text that becomes the rules; strict 'a = 1;' is its twin
 * sum '1 / 2' -> 1/2             a sum as the only rule, and its value for pupil 0
 * value 0 0 -> 1/2               both numbers; OUT and LOST are told so
 * markOf 0 0 -> 1/2              both numbers
 * range 0 0 -> 1/2 .. 9/1        all four numbers
 * </pre>
 */
final class Told {
  /** What is told of an object is promised for so many calls. */
  private static final int MOST_CALLS = 512;

  private final Checks checks;
  private final String sentence;
  private final CourseHouse x = new CourseHouse();
  private String line = "";
  private int calls;

  private Told(Checks checks, String sentence) {
    this.checks = checks;
    this.sentence = sentence;
  }

  static void run(Checks checks, String told) {
    made(checks, told).end();
  }

  /** The object that a run leaves; more may be asked of it. */
  static Told made(Checks checks, String told) {
    String[] lines = told.strip().split("\n");
    Told one = new Told(checks, lines[0].strip());
    for (int i = 1; i < lines.length; i++) {
      one.step(lines[i]);
    }
    return one;
  }

  /** Ends a run: it must have called something, and no more than is promised. */
  void end() {
    checks.isTrue(sentence + ": has calls, and no more than are promised", calls > 0 && calls <= MOST_CALLS);
  }

  private void due(String what, long got, long want) {
    checks.due(sentence + ": " + line + what, got, want);
  }

  /** The answer to one call. */
  int call(String name, int... a) {
    calls++;
    return CallByName.answer(x, name, a);
  }

  /** One line of a run. */
  void step(String told) {
    line = told.strip();
    int arrow = line.indexOf("->");
    String asked = arrow < 0 ? line : line.substring(0, arrow).strip();
    String want = arrow < 0 ? "" : line.substring(arrow + 2).strip();
    int times = 1;
    if (asked.matches("\\d+ x .*")) {
      times = Integer.parseInt(asked.substring(0, asked.indexOf(' ')));
      asked = asked.substring(asked.indexOf('x') + 1).strip();
    }
    for (int i = 0; i < times; i++) {
      one(asked, want);
    }
  }

  private void one(String asked, String want) {
    String name = asked.split(" ")[0];
    int quote = asked.indexOf('\'');
    if (name.equals("marks")) {
      marks(asked.split(" "));
    } else if (quote >= 0) {
      withText(name, asked.substring(quote + 1, asked.lastIndexOf('\'')), want);
    } else {
      String[] words = asked.split(" +");
      plain(name, Arrays.stream(words).skip(1).mapToInt(Integer::parseInt).toArray(), want);
    }
  }

  private void marks(String[] words) {
    call("pupil");
    for (int w = 0; w < words.length - 1; w++) {
      String mark = words[w + 1];
      call("work", 0, 20, 0, 0);
      if (mark.equals("out")) {
        call("excuse", 0, w, 1);
      } else if (!mark.equals("-")) {
        call("hand", 0, w);
        due(" marks " + mark, call("mark", 0, w, Integer.parseInt(mark)), 1);
      }
    }
  }

  private int feed(String text) {
    int length = 0;
    for (int from = 0; from < text.length(); from += 20) {
      length = call("text", Checks.four(text, from), Checks.four(text, from + 4), Checks.four(text, from + 8),
          Checks.four(text, from + 12), Checks.four(text, from + 16));
    }
    return length;
  }

  private void withText(String name, String text, String want) {
    if (name.equals("text")) {
      answer(feed(text), want);
    } else if (name.equals("sum")) {
      feed("r = " + text + ";");
      due(" is read", call("rules", text.length() + 5, 0), 1);
      plain("value", new int[] {0, 0}, want);
    } else {
      feed(text);
      answer(call("rules", text.length(), name.equals("strict") ? 1 : 0), want);
    }
  }

  private void plain(String name, int[] a, String want) {
    if (want.isEmpty() || want.matches("-?\\d+")) {
      answer(call(name, a), want);
    } else if (want.equals("OUT") || want.equals("LOST")) {
      due(" state", call(name, a[0], a[1], 2), want.equals("OUT") ? 0 : 2);
      numbers(name, a, "0/1");
    } else {
      if (name.equals("value")) {
        due(" state", call(name, a[0], a[1], 2), 1);
      }
      numbers(name, a, want);
    }
  }

  private void numbers(String name, int[] a, String want) {
    String[] due = want.split("/| \\.\\. ");
    for (int what = 0; what < due.length; what++) {
      due(" number " + what, call(name, a[0], a[1], what), Long.parseLong(due[what]));
    }
  }

  private void answer(int got, String want) {
    if (!want.isEmpty()) {
      due("", got, Long.parseLong(want));
    }
  }
}
