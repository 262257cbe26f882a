import java.io.IOException;
import java.lang.reflect.Constructor;
import java.lang.reflect.Field;
import java.lang.reflect.Method;
import java.lang.reflect.Modifier;
import java.nio.charset.StandardCharsets;
import java.nio.file.Files;
import java.nio.file.Path;
import java.util.ArrayList;
import java.util.List;
import java.util.Map;
import java.util.Set;
import java.util.TreeMap;
import java.util.TreeSet;
import java.util.regex.Matcher;
import java.util.regex.Pattern;

/** The rules of LANGUAGE.md, as far as a reader of the file and of the compiled class can test them. */
public final class LanguageTest {
  private static final Path FILE = Path.of("src/main/java/CourseHouse.java");
  private static final Set<String> FACE = Set.of("pupil()", "group(int,int)", "work(int,int,int,int)",
      "leave(int,int,int)", "excuse(int,int,boolean)", "tick(int)", "text(int,int,int,int,int)",
      "rules(int,boolean)", "name(int)", "hangs(int,int)", "need(int,int,int)", "opens(int,int)", "hand(int,int)",
      "mark(int,int,int)", "peer(int,int,int)", "show(int,int,int,int)", "appeal(int,int,int)",
      "markOf(int,int,int)", "value(int,int,int)", "range(int,int,int)", "least(int,int,int,int)", "count(int)");
  private static final Map<String, String> OWNERS = Map.of("reader", "Reader", "reckoner", "Reckoner", "book", "Book",
      "fresh", "Book", "in", "Book", "sheet", "Sheet", "other", "Sheet");
  private static final int MOST_DEPTH = 8;
  private static final Checks CHECKS = new Checks();

  public static void main(String[] args) throws IOException {
    String source = Files.readString(FILE, StandardCharsets.ISO_8859_1);
    face();
    classesInside();
    words(withoutComments(source));
    methods(withoutComments(source));
    depths(withoutComments(source));
    CHECKS.end();
  }

  private static void isTrue(String told, boolean so) {
    CHECKS.isTrue(told, so);
  }

  private static void face() {
    Set<String> found = new TreeSet<>();
    Set<String> names = new TreeSet<>();
    for (Method method : CourseHouse.class.getDeclaredMethods()) {
      if (Modifier.isPublic(method.getModifiers())) {
        found.add(method.getName() + list(method.getParameterTypes()));
        names.add(method.getName());
        isTrue(method + " answers int", method.getReturnType() == int.class);
        isTrue(method + " is no static one", !Modifier.isStatic(method.getModifiers()));
      }
    }
    isTrue("the face is that of the document", found.equals(new TreeSet<>(FACE)));
    for (Class<?> one : classes()) {
      for (Method method : one.getDeclaredMethods()) {
        boolean own = one == CourseHouse.class && Modifier.isPublic(method.getModifiers());
        boolean hidden = one != CourseHouse.class || Modifier.isPrivate(method.getModifiers());
        isTrue(method + " is private or of the face", own || hidden);
        isTrue(method + " has a name of its own", own || !names.contains(method.getName()));
      }
    }
    for (Field field : CourseHouse.class.getDeclaredFields()) {
      isTrue(field + " is private", Modifier.isPrivate(field.getModifiers()));
    }
    Constructor<?>[] made = CourseHouse.class.getDeclaredConstructors();
    isTrue("one public constructor", made.length == 1 && Modifier.isPublic(made[0].getModifiers())
        && made[0].getParameterCount() == 0);
    isTrue("public and final", Modifier.isPublic(CourseHouse.class.getModifiers())
        && Modifier.isFinal(CourseHouse.class.getModifiers()));
    isTrue("no package", CourseHouse.class.getPackageName().isEmpty());
  }

  private static String list(Class<?>[] types) {
    StringBuilder made = new StringBuilder("(");
    for (Class<?> type : types) {
      made.append(made.length() > 1 ? "," : "").append(type.getName());
    }
    return made.append(')').toString();
  }

  private static List<Class<?>> classes() {
    List<Class<?>> found = new ArrayList<>();
    found.add(CourseHouse.class);
    found.addAll(List.of(CourseHouse.class.getDeclaredClasses()));
    return found;
  }

  private static void classesInside() {
    isTrue("at most twelve classes", classes().size() <= 12);
    for (Class<?> one : classes()) {
      if (one != CourseHouse.class) {
        isTrue(one + " is static", Modifier.isStatic(one.getModifiers()));
        isTrue(one + " is not public", !Modifier.isPublic(one.getModifiers()));
        isTrue(one + " has no class inside", one.getDeclaredClasses().length == 0);
      }
      int fields = 0;
      for (Field field : one.getDeclaredFields()) {
        if (Modifier.isStatic(field.getModifiers())) {
          isTrue(field + " is final", Modifier.isFinal(field.getModifiers()));
          isTrue(field + " is a constant", field.getType().isPrimitive() || field.getType() == String.class);
        } else {
          fields++;
        }
      }
      isTrue(one + " has at most twenty fields", fields <= 20);
      for (Method method : one.getDeclaredMethods()) {
        isTrue(method + " takes at most seven", method.getParameterCount() <= 7);
      }
    }
  }

  private static String withoutComments(String source) {
    return source.replaceAll("(?s)/\\*.*?\\*/", "").replaceAll("//[^\n]*", "");
  }

  private static void words(String code) {
    for (String word : List.of("throw", "throws", "try", "catch", "finally", "synchronized", "assert", "equals",
        "hashCode", "toString", "Thread", "Random", "Object", "record", "float", "double", "volatile", "native",
        "instanceof", "protected", "goto")) {
      isTrue("no " + word, !Pattern.compile("\\b" + word + "\\b").matcher(code).find());
    }
    for (String sign : List.of("->", "::", "while (true)", "for (;;)", "\"", "@", "static {", ">>>=")) {
      isTrue("no " + sign, !code.contains(sign));
    }
    Matcher imports = Pattern.compile("import ([^;]*);").matcher(code);
    while (imports.find()) {
      isTrue("import " + imports.group(1), Set.of("java.util.Arrays", "java.util.ArrayList", "java.util.List",
          "java.util.Iterator").contains(imports.group(1)));
    }
    Matcher library = Pattern.compile("\\b(System|Math|Arrays|Integer|Long)\\.(\\w+)").matcher(code);
    while (library.find()) {
      isTrue("library " + library.group(), Set.of("System.arraycopy", "Arrays.fill", "Arrays.copyOf",
          "Arrays.copyOfRange", "Math.min", "Math.max", "Math.abs", "Integer.bitCount").contains(library.group()));
    }
    for (int i = 0; i < code.length(); i++) {
      if (code.charAt(i) > 126 || code.charAt(i) < 32 && code.charAt(i) != '\n') {
        isTrue("a sign beyond plain ones at " + i, false);
      }
    }
  }

  /** Methods by their indentation: a head of 4 or 8 blanks that ends with a brace. */
  private static void methods(String code) {
    Pattern head = Pattern.compile("^( {4}| {8})[A-Za-z][^=;]*\\) \\{$");
    String[] lines = code.split("\n");
    for (int i = 0; i < lines.length; i++) {
      Matcher found = head.matcher(lines[i]);
      boolean isHead = found.matches() && !lines[i].trim().matches("(if|for|while|switch|else|do)\\b.*");
      if (!isHead) {
        continue;
      }
      int end = i;
      while (end < lines.length && !lines[end].equals(found.group(1) + "}")) {
        end++;
      }
      isTrue("short: " + lines[i].trim() + " has " + (end - i + 1), end - i < 60);
      boolean makes = lines[i].trim().matches("(public CourseHouse|Sheet)\\(\\) \\{");
      for (int k = i; k <= end && k < lines.length; k++) {
        isTrue("only constructors make objects: " + lines[k].trim(), makes || !lines[k].matches(".*\\bnew\\b.*"));
      }
    }
  }

  /** How deep the calls go: each method of the file by class and name, with the methods that it calls. */
  private static void depths(String code) {
    Map<String, List<String>> calls = new TreeMap<>();
    Map<String, String> bodies = bodies(code);
    for (String method : bodies.keySet()) {
      calls.put(method, called(method, bodies));
    }
    for (String method : calls.keySet()) {
      int deep = depth(method, calls, new ArrayList<>());
      isTrue(method + " goes " + deep + " deep", deep <= MOST_DEPTH);
    }
    isTrue("all methods of the face are found", calls.size() > FACE.size());
  }

  private static Map<String, String> bodies(String code) {
    Pattern head = Pattern.compile("( {4}| {8})[A-Za-z][^=;]*?(\\w+)\\([^()]*\\) \\{");
    Pattern inside = Pattern.compile(" {4}private static final class (\\w+) \\{");
    Map<String, String> found = new TreeMap<>();
    String owner = "CourseHouse";
    String method = "";
    for (String line : code.split("\n")) {
      Matcher begins = inside.matcher(line);
      Matcher called = head.matcher(line);
      if (begins.matches()) {
        owner = begins.group(1);
      } else if (called.matches() && !line.trim().matches("(if|for|while|switch|else|do)\\b.*")) {
        method = owner + "." + called.group(2);
        found.put(method, "");
      } else if (found.containsKey(method)) {
        found.put(method, found.get(method) + line + "\n");
      }
    }
    return found;
  }

  /** What the body of a method calls; what a name stands for is told by OWNERS. */
  private static List<String> called(String method, Map<String, String> bodies) {
    List<String> found = new ArrayList<>();
    Matcher call = Pattern.compile("(?:(\\w+)\\.)?\\b([a-z]\\w*)\\(").matcher(bodies.get(method));
    while (call.find()) {
      String owner = call.group(1);
      String own = method.substring(0, method.indexOf('.')) + "." + call.group(2);
      if (owner == null) {
        found.add(bodies.containsKey(own) ? own : "CourseHouse." + call.group(2));
      } else if (!Set.of("Math", "Integer", "Arrays").contains(owner)) {
        found.add(OWNERS.getOrDefault(owner, owner) + "." + call.group(2));
      }
    }
    for (String one : found) {
      isTrue(method + " calls " + one + ", which is in the file", bodies.containsKey(one));
    }
    return found;
  }

  /** The longest chain of calls from a method on; what calls itself again is recursion and counts once. */
  private static int depth(String method, Map<String, List<String>> calls, List<String> open) {
    int deepest = 0;
    open.add(method);
    for (String one : calls.get(method)) {
      if (!open.contains(one)) {
        deepest = Math.max(deepest, depth(one, calls, open));
      }
    }
    open.remove(method);
    return deepest + 1;
  }
}
