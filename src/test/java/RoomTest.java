import com.sun.management.ThreadMXBean;
import java.lang.management.ManagementFactory;

/** All calls of a run live in one room: a new object stays small, and calls make nothing more. */
public final class RoomTest {
  private static final ThreadMXBean BEAN = (ThreadMXBean) ManagementFactory.getThreadMXBean();
  /** Two rows of halves, and one of strips: 9,625 elements, and 5,200 more once something is divided. */
  private static final long MOST_FOR_ONE = 100000;
  private static final long MOST_FOR_CALLS = 20000;

  private static long sink = 0;

  public static void main(String[] args) {
    use(new FloorShop(), 2);
    long start = made();
    FloorShop x = new FloorShop();
    x.seed(0);
    for (int i = 0; i < 4; i++) {
      x.inflate();
    }
    x.deflate();
    long one = made() - start;
    start = made();
    use(x, 40);
    long calls = made() - start;
    boolean fine = one <= MOST_FOR_ONE && calls <= MOST_FOR_CALLS && sink != 0;
    System.out.println("one object makes " + one + " bytes, 500 calls more " + calls + (fine ? "" : ": too many"));
    if (!fine) {
      System.exit(1);
    }
  }

  private static long made() {
    return BEAN.getCurrentThreadAllocatedBytes();
  }

  private static void use(FloorShop x, int rounds) {
    for (int i = 0; i < rounds; i++) {
      if (x.inflate() == FloorShop.NONE) {
        sink += x.deflate();
      }
      for (int what = 0; what < 7; what++) {
        sink += x.count(what);
      }
      sink += x.clash() + x.star(0, 0, 2) + x.inside(3, 0, 0, 0) + x.steps(0, 0, 0, 77) + x.steps(0, 0, 1, 77);
      sink += x.place(0, 1000 + i, 0, 0, 0, 0, true) + (x.remove(i) ? 1 : 0);
    }
  }
}
