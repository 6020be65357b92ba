import java.lang.management.ManagementFactory;
import java.util.Random;

/** All calls of a run live in one room of some 600,000 objects: what a long run makes stays far below it. */
public final class RoomTest {
  private static final com.sun.management.ThreadMXBean BEAN =
      (com.sun.management.ThreadMXBean) ManagementFactory.getThreadMXBean();
  // An object is at least 16 bytes: 2 MB are some 130,000 objects at the most, and far fewer than 7.3 million elements.
  private static final long ROOM = 2000000;

  private RoomTest() {}

  public static void main(String[] args) {
    for (int seed = 0; seed < 40; seed++) {
      Check.due("run " + seed + " stays in its room", made(seed, seed % 2 == 0) < ROOM, true);
    }
    Check.finish();
  }

  private static long now() {
    return BEAN.getThreadAllocatedBytes(Thread.currentThread().getId());
  }

  private static long made(int seed, boolean big) {
    Random random = new Random(seed);
    String[] heavy = {"(x[a-h]y.[p-r]zz.){20}", "(x[a-h]y.[p-r]zz.|u[a-h]v.){8}(u[a-h]v.[p-r]zz.|p[a-h]v.){5}",
        "kkk.[a-h]xx.|kkk.[a-h]yy.|kkk.[a-h]zz.|kkk.lll", "[a-f]xxx.[a-e]yy.[a-h]zz.[a-h]vv"};
    long start = now();
    GramFinder x = new GramFinder();
    long made = now() - start;
    int calls = 0;
    for (int f = 0; calls < 500; f++) {
      String text = big && f < 8 ? "abcdefghijklmnopqrstuvwxyz".repeat(20)
          : f % 5 == 0 ? heavy[f / 5 % heavy.length] : RegexMaker.regex(random, "abcdefghij");
      for (int[] n : Check.numbers(text)) {
        x.feed(n[0], n[1], n[2], n[3], n[4]);
        calls++;
      }
      x.end(text.length());
      start = now();
      if (f < 8) {
        x.add();
      } else {
        x.search(f % 7 == 0);
        x.count(3);
      }
      made += now() - start;
      calls += 3;
    }
    return made;
  }
}
