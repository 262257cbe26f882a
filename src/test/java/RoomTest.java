import java.lang.management.ManagementFactory;
import java.lang.reflect.Array;
import java.lang.reflect.Field;
import java.lang.reflect.Modifier;
import java.util.Collections;
import java.util.IdentityHashMap;
import java.util.Random;
import java.util.Set;

/** Room and time: no call makes an object, and the dearest ones end soon. */
public final class RoomTest {
  private static final Checks CHECKS = new Checks();
  private static final int CALLS = 512;
  private static final int MOST_OBJECTS = 600_000;
  private static final int MOST_FIELDS = 7_300_000;

  public static void main(String[] args) throws IllegalAccessException {
    for (int seed = 1; seed <= 5; seed++) {
      anyCalls(seed);
    }
    noObjects();
    roomOfObjects();
    dearRange();
    CHECKS.end();
  }

  private static long allocated() {
    com.sun.management.ThreadMXBean bean = (com.sun.management.ThreadMXBean) ManagementFactory.getThreadMXBean();
    return bean.getThreadAllocatedBytes(Thread.currentThread().getId());
  }

  /** The calls of one day, with a long text and its ranges. */
  private static int day(CourseHouse x, int[][] pieces) {
    int sum = 0;
    for (int i = 0; i < 6; i++) {
      x.pupil();
    }
    for (int i = 0; i < 10; i++) {
      x.work(i % 4, 4, 0, 10);
    }
    for (int day = 0; day < 10; day++) {
      for (int[] piece : pieces) {
        sum += x.text(piece[0], piece[1], piece[2], piece[3], piece[4]);
      }
      sum += x.rules(20 * pieces.length, day % 2 == 0);
      for (int p = 0; p < 6; p++) {
        sum += x.hand(p, day) + x.mark(p, day, 3) + x.value(p, 0, 0) + x.range(p, 0, 2) + x.least(p, 0, 9, 2);
      }
      sum += x.need(9, 0, 1) + x.hangs(0, 1) + x.tick(9) + x.appeal(0, 0, 1) + x.excuse(1, 1, true);
    }
    return sum;
  }

  private static void noObjects() {
    String text = "a = max(wa - wb, best 2 (wc, wd, we / 3)); b = cap(a + a, 100) * pass(wf, 2);";
    int[][] pieces = new int[(text.length() + 19) / 20][5];
    for (int i = 0; i < pieces.length; i++) {
      for (int k = 0; k < 5; k++) {
        pieces[i][k] = Checks.four(text, 20 * i + 4 * k);
      }
    }
    day(new CourseHouse(), pieces);
    allocated();
    CourseHouse x = new CourseHouse();
    long before = allocated();
    long idle = allocated() - before;
    before = allocated();
    day(x, pieces);
    CHECKS.due("bytes made by calls", allocated() - before, idle);
  }

  /** What a new object takes; calls take nothing, so runs of new objects alone are the dearest. */
  private static void roomOfObjects() throws IllegalAccessException {
    Set<Object> found = Collections.newSetFromMap(new IdentityHashMap<>());
    int fields = fieldsOf(new CourseHouse(), found);
    CHECKS.isTrue("objects: " + found.size(), found.size() * CALLS <= MOST_OBJECTS);
    System.out.println("a new object: " + found.size() + " objects, " + fields + " fields and elements");
    CHECKS.isTrue("fields and elements: " + fields, fields * CALLS <= MOST_FIELDS);
  }

  /** The fields and elements of an object and of all that it leads to and is not found yet. */
  private static int fieldsOf(Object one, Set<Object> found) throws IllegalAccessException {
    if (one == null || !found.add(one)) {
      return 0;
    }
    int many = one.getClass().isArray() ? Array.getLength(one) : 0;
    if (one instanceof Object[]) {
      for (Object element : (Object[]) one) {
        many += fieldsOf(element, found);
      }
    }
    for (Field field : one.getClass().getDeclaredFields()) {
      if (!Modifier.isStatic(field.getModifiers())) {
        field.setAccessible(true);
        many += 1 + (field.getType().isPrimitive() ? 0 : fieldsOf(field.get(one), found));
      }
    }
    return many;
  }

  /** The longest text there is, over the most marks. */
  private static void dearRange() {
    CourseHouse x = Checks.withPupils(1);
    for (int i = 0; i < 3; i++) {
      x.work(0, 20, 0, 0);
    }
    String text = "a=0" + Checks.times(99, "-wa/7") + Checks.times(12, "+wb*wc") + ";";
    CHECKS.due("read", Checks.rules(x, text), 1);
    long begin = System.nanoTime();
    CHECKS.due("least", x.range(0, 0, 0), -1980);
    CHECKS.due("by", x.range(0, 0, 1), 7);
    CHECKS.due("greatest", x.range(0, 0, 2), 4800);
    CHECKS.isTrue("soon", System.nanoTime() - begin < 60_000_000_000L);
  }

  /** Calls with any numbers at all: none may throw. */
  private static void anyCalls(int seed) {
    String[] names = {"pupil", "group", "work", "leave", "excuse", "tick", "text", "rules", "name", "hangs", "need",
        "opens", "hand", "mark", "peer", "show", "appeal", "markOf", "value", "range", "least", "count"};
    int[] edges = {Integer.MIN_VALUE, Integer.MIN_VALUE + 1, Integer.MAX_VALUE, Integer.MAX_VALUE - 1, -1, 0, 1, 2, 5,
        6, 9, 10, 11, 12, 20, 21, 31, 32, 33, 63, 64, 100, 101, 600, 601, 1000, 9999, 10000, 100000};
    Random random = new Random(seed);
    for (int run = 0; run < 400; run++) {
      CourseHouse x = new CourseHouse();
      for (int i = 0; i < CALLS; i++) {
        int[] a = new int[5];
        for (int k = 0; k < 5; k++) {
          a[k] = random.nextInt(3) == 0 ? edges[random.nextInt(edges.length)]
              : random.nextInt(9) == 0 ? random.nextInt() : random.nextInt(4);
        }
        if (i % 40 == 20) {
          Checks.rules(x, "a=wa-1;b=a*wb;c=max(wa,b);");
        }
        CallByName.answer(x, names[random.nextInt(names.length)], a);
      }
    }
    CHECKS.isTrue("no call threw", true);
  }
}
