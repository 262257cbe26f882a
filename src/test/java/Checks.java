/** What the tests share: checks of answers that are due, and texts handed to an object. */
final class Checks {
  private int wrong = 0;
  private int made = 0;

  /** One call with the answer that is due. */
  void due(String told, long got, long want) {
    made++;
    if (got != want) {
      wrong++;
      System.out.println(told + " answered " + got + ", due is " + want);
    }
  }

  void isTrue(String told, boolean so) {
    due(told, so ? 1 : 0, 1);
  }

  /** Puts a text into an object in pieces of twenty bytes, blanks at the end. */
  static void feed(CourseHouse x, String text) {
    for (int from = 0; from < text.length(); from += 20) {
      x.text(four(text, from), four(text, from + 4), four(text, from + 8), four(text, from + 12), four(text, from + 16));
    }
  }

  static int four(String text, int from) {
    int made = 0;
    for (int i = from; i < from + 4; i++) {
      made = made << 8 | (i < text.length() ? text.charAt(i) & 255 : ' ');
    }
    return made;
  }

  /** Makes a text the rules. */
  static int rules(CourseHouse x, String text, boolean strict) {
    feed(x, text);
    return x.rules(text.length(), strict);
  }

  static int rules(CourseHouse x, String text) {
    return rules(x, text, false);
  }

  /** A text with a part many times over. */
  static String times(int many, String part) {
    return part.repeat(many);
  }

  /** A new object with so many pupils. */
  static CourseHouse withPupils(int many) {
    CourseHouse x = new CourseHouse();
    for (int i = 0; i < many; i++) {
      x.pupil();
    }
    return x;
  }

  /** The refusal of a call whose answers may be below 0. */
  static int apart(int refusal) {
    return 2000000000 - refusal;
  }

  /** Ends the test: exit code 1 if an answer was wrong. */
  void end() {
    System.out.println(made + " checks, " + wrong + " wrong");
    if (wrong != 0 || made == 0) {
      System.exit(1);
    }
  }
}
