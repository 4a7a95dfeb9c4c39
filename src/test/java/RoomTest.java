import java.lang.reflect.Method;
import java.util.Arrays;

/**
 * All calls of a run live in one room of some 7.3 million fields and elements, and nothing that was made leaves it. A
 * field or an element takes a byte at least, so what is made is counted in bytes. Without a JDK that counts them nothing
 * is tested here.
 */
public final class RoomTest {
  private static final long ROOM = 7300000;

  private static Object bean;
  private static Method counter;
  private static int wrong = 0;

  private static boolean counts() {
    try {
      bean = Class.forName("java.lang.management.ManagementFactory").getMethod("getThreadMXBean").invoke(null);
      counter = Class.forName("com.sun.management.ThreadMXBean").getMethod("getThreadAllocatedBytes", long.class);
      return bytes() > 0;
    } catch (ReflectiveOperationException | RuntimeException e) {
      return false;
    }
  }

  private static long bytes() throws ReflectiveOperationException {
    return (Long) counter.invoke(bean, Thread.currentThread().getId());
  }

  private static void line(Wordbefore w, int... pieces) {
    int[] p = Arrays.copyOf(pieces, (pieces.length + 4) / 5 * 5);
    w.line(0, p[0], p[1], p[2], p[3], p[4]);
    for (int i = 5; i < p.length; i += 5) {
      w.more(0, p[i], p[i + 1], p[i + 2], p[i + 3], p[i + 4]);
    }
  }

  /** "#define F(x) #x", "#define G(x, y) F(x x x x x x x x x x x x x x)", "#define H(x, ...) x x x x x x x x x x x x x x" */
  private static void defines(Wordbefore w) {
    line(w, 60, 72, 81);
    line(w, 60, 73, 90, 9, 1, 9, 1, 9, 1, 9, 1, 9, 1, 9, 1, 9, 1, 9, 1, 9, 1, 9, 1, 9, 1, 9, 1, 9, 1, 9, 29);
    line(w, 60, 74, 9, 1, 9, 1, 9, 1, 9, 1, 9, 1, 9, 1, 9, 1, 9, 1, 9, 1, 9, 1, 9, 1, 9, 1, 9, 1, 9);
  }

  /** "H(G(G(G(G(1,),),),))" */
  private static void calls(Wordbefore w) {
    line(w, 8, 28, 7, 28, 7, 28, 7, 28, 7, 28, 18, 30, 29, 30, 29, 30, 29, 30, 29, 29);
  }

  /** The longest text that a test under ../shared/tests asks for, twice. */
  private static void longTexts() {
    Wordbefore w = new Wordbefore();
    defines(w);
    calls(w);
    w.run(0);
    w.load(0, 3);
    w.finish();
    if (w.desk().length() != 1713068 || w.would(0, 3).length() != 1713067) {
      wrong++;
      System.out.println("desk() or would() is not as long as due");
    }
  }

  /** A run of 512 calls, most of them dear ones; they answer with numbers. */
  private static void manyCalls() {
    Wordbefore w = new Wordbefore();
    defines(w);
    calls(w);
    line(w, 75, 79, 77, 78, 75, 75, 1, 75);
    for (int i = 0; i < 60; i++) {
      w.run(0);
      w.load(0, 3);
      w.finish();
      w.cursor(0);
      w.put(90);
      w.tail(29);
      w.digest();
      w.ofWould(0, 4, 0);
    }
  }

  /** VALUES of a NUMBER of 40353608 signs, and what else is told of it without its signs. */
  private static void longNumbers() {
    Wordbefore w = new Wordbefore();
    line(w, 60, 72, 9, 34, 9, 34, 9, 34, 9, 34, 9, 34, 9, 34, 9);
    line(w, 60, 2, 83, 90, 9, 29);
    line(w, 60, 3, 83, 2, 28, 2, 28, 2, 83, 29, 29);
    line(w, 60, 4, 83, 9, 34, 18);
    line(w, 60, 5, 83, 4, 83);
    line(w, 5, 28, 3, 28, 3, 28, 3, 28, 17, 29, 29, 29, 29);
    for (int i = 0; i < 200; i++) {
      w.run(0);
      if (w.reckon(0, 5) != 1 || w.ofOut(0, 7) != 40353608) {
        wrong++;
        System.out.println("reckon() or ofOut() of a long NUMBER is not as due");
        return;
      }
    }
  }

  interface Run {
    void play();
  }

  private static void fits(String what, Run run, long room) throws ReflectiveOperationException {
    long before = bytes();
    run.play();
    long made = bytes() - before;
    if (made > room) {
      wrong++;
      System.out.println(what + ": " + made + " bytes were made, " + room + " at most are due");
    }
  }

  public static void main(String[] args) throws ReflectiveOperationException {
    if (!counts()) {
      System.out.println("this JDK counts no bytes");
      return;
    }
    new Wordbefore();
    fits("a new object", () -> new Wordbefore(), ROOM / 50);
    fits("long texts", () -> longTexts(), ROOM);
    fits("long numbers", () -> longNumbers(), ROOM / 10);
    fits("many calls", () -> manyCalls(), ROOM / 10);
    if (wrong > 0) {
      System.exit(1);
    }
  }
}
