import java.io.IOException;
import java.lang.reflect.Method;
import java.lang.reflect.Modifier;
import java.nio.charset.StandardCharsets;
import java.nio.file.Files;
import java.nio.file.Path;
import java.util.Set;
import java.util.TreeSet;
import java.util.regex.Matcher;
import java.util.regex.Pattern;

/** README.md shows each call of the face at least once, and each call there answers what it says. */
public final class ReadmeTest {
  private static final Path FILE = Path.of("README.md");
  private static final String MAKES = "CourseHouse x = new CourseHouse();";
  private static final Pattern CALL = Pattern.compile("x\\.(\\w+)\\(([^()]*)\\);\\s*// (-?\\d+)(?:: (.*))?");
  private static final Pattern QUOTED = Pattern.compile("\"(.*)\"");
  private static final Checks CHECKS = new Checks();

  public static void main(String[] args) throws IOException {
    Set<String> shown = new TreeSet<>();
    CourseHouse x = null;
    boolean inside = false;
    for (String line : Files.readAllLines(FILE, StandardCharsets.UTF_8)) {
      if (line.startsWith("```")) {
        CHECKS.isTrue("an example ends before the next one: " + line, !inside || line.equals("```"));
        inside = line.equals("```java");
        x = null;
      } else if (inside && x == null) {
        CHECKS.isTrue("an example begins with a new object: " + line, line.equals(MAKES));
        x = new CourseHouse();
      } else if (inside) {
        Matcher call = CALL.matcher(line);
        boolean told = call.matches();
        CHECKS.isTrue("a call with its answer: " + line, told);
        if (told) {
          run(x, line, call);
          shown.add(call.group(1));
        }
      }
    }
    CHECKS.isTrue("each call of the face is shown, not only " + shown, shown.equals(face()));
    CHECKS.end();
  }

  private static void run(CourseHouse x, String line, Matcher call) {
    String inner = call.group(2).strip();
    String[] words = inner.isEmpty() ? new String[0] : inner.split(", ");
    int[] a = new int[words.length];
    for (int i = 0; i < a.length; i++) {
      a[i] = words[i].equals("true") ? 1 : words[i].equals("false") ? 0 : (int) (long) Long.decode(words[i]);
    }
    CHECKS.due(line, CallByName.answer(x, call.group(1), a), Long.parseLong(call.group(3)));
    if (call.group(1).equals("text")) {
      bytes(line, call.group(4), a);
    }
  }

  /** The bytes of a text are those of the quoted words behind it, blanks at the end. */
  private static void bytes(String line, String told, int[] a) {
    Matcher quoted = QUOTED.matcher(told == null ? "" : told);
    boolean isQuoted = quoted.matches();
    CHECKS.isTrue("the text is quoted: " + line, isQuoted);
    for (int i = 0; isQuoted && i < a.length; i++) {
      CHECKS.due("int " + i + " of " + line, a[i], Checks.four(quoted.group(1), 4 * i));
    }
  }

  private static Set<String> face() {
    Set<String> found = new TreeSet<>();
    for (Method method : CourseHouse.class.getDeclaredMethods()) {
      if (Modifier.isPublic(method.getModifiers())) {
        found.add(method.getName());
      }
    }
    return found;
  }
}
