import java.math.BigDecimal;
import java.math.BigInteger;
import java.math.MathContext;
import java.math.RoundingMode;
import java.util.ArrayList;
import java.util.Arrays;
import java.util.HashMap;
import java.util.HashSet;
import java.util.List;
import java.util.Map;
import java.util.Random;
import java.util.Set;

/** Runs of calls, made with fixed seeds, on a FloorShop and on a slow floor written another way. */
public final class RandomRunsTest {
  private static final int RUNS = 1200;
  private static final int NONE = -1;
  private static final int LIMIT = 1000000;

  private static int wrong = 0;
  private static final Map<String, Integer> seen = new HashMap<>();

  public static void main(String[] args) {
    int runs = args.length > 0 ? Integer.parseInt(args[0]) : RUNS;
    for (int run = 0; run < runs && wrong < 20; run++) {
      new Run(run).go();
    }
    for (String state : new String[] {"clash", "full star", "joined 0", "joined 1",
        "inflate refused", "deflate refused", "place refused", "place", "paired", "tiny apart", "400"}) {
      if (runs >= RUNS && seen.getOrDefault(state, 0) == 0) {
        wrong++;
        System.out.println("no run came to: " + state);
      }
    }
    System.out.println(wrong == 0 ? "all answers are as due" : wrong + " answers are not as due");
    if (args.length > 0) {
      System.out.println(seen);
    }
    if (wrong != 0) {
      System.exit(1);
    }
  }

  private static void see(String state) {
    seen.merge(state, 1, Integer::sum);
  }

  private static final class Run {
    final int number;
    final Random random;
    final FloorShop shop = new FloorShop();
    final SlowFloor floor = new SlowFloor();
    final StringBuilder calls = new StringBuilder();

    Run(int number) {
      this.number = number;
      this.random = new Random(77000 + number);
    }

    void due(String call, long got, long want) {
      calls.append(call).append(" -> ").append(want).append('\n');
      if (got != want) {
        wrong++;
        System.out.println("run " + number + ": " + call + " answered " + got + ", due is " + want + "; after:\n"
            + (calls.length() > 3000 ? ".. " + calls.substring(calls.length() - 3000) : calls));
      }
    }

    void go() {
      int style = random.nextInt(6);
      if (style == 5) {
        fill();
      }
      int length = 20 + random.nextInt(60);
      for (int step = 0; step < length && wrong < 20; step++) {
        change(style);
        ask();
      }
      compareAll();
    }

    void fill() {
      for (int i = 0; i < 398 + random.nextInt(5); i++) {
        place(random.nextInt(2), 3 * i, 0, 0, 0, random.nextInt(10), random.nextBoolean());
      }
      if (floor.halves.size() == 400) {
        see("400");
      }
    }

    void change(int style) {
      int choice = random.nextInt(100);
      if (choice < 5) {
        int kind = random.nextInt(12) == 0 ? random.nextInt(9) - 3 : random.nextInt(4);
        due("seed(" + kind + ")", shop.seed(kind), floor.seed(kind));
      } else if (choice < 15) {
        int want = floor.inflate();
        see(want == NONE ? "inflate refused" : "inflate");
        due("inflate()", shop.inflate(), want);
      } else if (choice < 25) {
        boolean some = !floor.halves.isEmpty();
        int want = floor.deflate();
        if (want == NONE && some) {
          see("deflate refused");
        }
        due("deflate()", shop.deflate(), want);
      } else if (choice < 35) {
        int n = random.nextInt(floor.halves.size() + 2) - (random.nextInt(5) == 0 ? 1 : 0);
        due("remove(" + n + ")", shop.remove(n) ? 1 : 0, floor.remove(n) ? 1 : 0);
      } else if (choice < 45) {
        placeThree(somewhere(style), random.nextInt(10), random.nextBoolean());
      } else {
        placeSomewhere(style);
      }
    }

    /** A half of TYPE 0 with two others at its legs, which can be put together. */
    void placeThree(long[] at, int k, boolean left) {
      int side = left ? 1 : 9;
      long[] end = plus(at, unit(k));
      place(0, (int) at[0], (int) at[1], (int) at[2], (int) at[3], k, left);
      place(1, (int) end[0], (int) end[1], (int) end[2], (int) end[3], (k + 5) % 10, left);
      int type = random.nextInt(2);
      int other = (k + (type == 0 ? 2 : 4) * side) % 10;
      place(type, (int) at[0], (int) at[1], (int) at[2], (int) at[3], other, !left);
    }

    void placeSomewhere(int style) {
      long[] at;
      if (floor.halves.isEmpty() || random.nextInt(12) == 0) {
        at = somewhere(style);
      } else {
        Half half = floor.halves.get(random.nextInt(floor.halves.size()));
        at = half.corner(random.nextInt(3)).clone();
        if (random.nextInt(3) == 0) {
          at = plus(at, unit(random.nextInt(10)));
        }
        if (random.nextInt(5) == 0) {
          at = plus(at, tiny());
        }
      }
      int type = random.nextInt(40) == 0 ? random.nextInt(5) - 2 : random.nextInt(2);
      int k = random.nextInt(40) == 0 ? random.nextInt(16) - 3 : random.nextInt(10);
      place(type, (int) at[0], (int) at[1], (int) at[2], (int) at[3], k, random.nextBoolean());
    }

    long[] somewhere(int style) {
      long[] at = new long[4];
      for (int i = 0; i < 4; i++) {
        if (style == 1) {
          at[i] = (random.nextBoolean() ? 1 : -1) * (LIMIT + 2 - random.nextInt(4));
        } else if (style == 2) {
          at[i] = random.nextInt(2 * LIMIT + 3) - LIMIT - 1;
        } else if (style == 3) {
          at[i] = (random.nextBoolean() ? 1 : -1) * random.nextInt(2) * (499990 + random.nextInt(20));
        } else {
          at[i] = random.nextInt(5) - 2;
        }
      }
      if (random.nextInt(60) == 0) {
        at[random.nextInt(4)] = random.nextBoolean() ? Integer.MIN_VALUE : Integer.MAX_VALUE;
      }
      return at;
    }

    /** A unit divided by G so often that it is very near to 0, its numbers being large. */
    long[] tiny() {
      long[] point = unit(random.nextInt(10));
      int times = 1 + random.nextInt(28);
      for (int i = 0; i < times; i++) {
        point = times(point, ONE_BY_G);
      }
      see("tiny apart");
      return point;
    }

    void place(int type, int a, int b, int c, int d, int k, boolean left) {
      int want = floor.place(type, a, b, c, d, k, left);
      see(want == NONE ? "place refused" : "place");
      due("place(" + type + ", " + a + ", " + b + ", " + c + ", " + d + ", " + k + ", " + left + ")",
          shop.place(type, a, b, c, d, k, left), want);
    }

    void ask() {
      for (int what = 0; what < 4; what++) {
        due("count(" + what + ")", shop.count(what), floor.count(what));
      }
      int n = random.nextInt(floor.halves.size() + 1) - (random.nextInt(20) == 0 ? 1 : 0);
      int corner = random.nextInt(30) == 0 ? random.nextInt(7) - 2 : random.nextInt(3);
      switch (random.nextInt(6)) {
        case 0:
          int clash = floor.clash();
          if (clash > 0) {
            see("clash");
          }
          due("clash()", shop.clash(), clash);
          break;
        case 1:
          int what = random.nextInt(9) - 1;
          int many = floor.count(what);
          if (what == 6 && many > 0) {
            see("paired");
          }
          due("count(" + what + ")", shop.count(what), many);
          break;
        case 2:
          int i = random.nextInt(7) - 1;
          due("corner(" + n + ", " + corner + ", " + i + ")", shop.corner(n, corner, i), floor.corner(n, corner, i));
          break;
        case 3:
          int which = random.nextInt(20) == 0 ? random.nextInt(7) - 2 : random.nextInt(3);
          int star = floor.star(n, corner, which);
          if (which == 2 && star == 1) {
            see("full star");
          }
          due("star(" + n + ", " + corner + ", " + which + ")", shop.star(n, corner, which), star);
          break;
        case 4:
          askInside(n, corner);
          break;
        default:
          askSteps(n, corner);
          break;
      }
    }

    void askInside(int n, int corner) {
      long[] at = somewhere(random.nextInt(6));
      if (n >= 0 && n < floor.halves.size() && corner >= 0 && corner < 3) {
        at = floor.halves.get(n).corner(corner).clone();
        if (random.nextBoolean()) {
          at = plus(at, tiny());
        }
      }
      int a = (int) at[0];
      int b = (int) at[1];
      int c = (int) at[2];
      int d = (int) at[3];
      due("inside(" + a + ", " + b + ", " + c + ", " + d + ")", shop.inside(a, b, c, d), floor.inside(a, b, c, d));
    }

    void askSteps(int n, int corner) {
      int axis = random.nextInt(20) == 0 ? random.nextInt(5) - 1 : random.nextInt(2);
      int[] lengths = {0, 1, 2, 3, 7, 100, 9999999, 10000000, 10000001, -1, Integer.MIN_VALUE};
      int length = random.nextBoolean() ? lengths[random.nextInt(lengths.length)] : 1 + random.nextInt(10000000);
      due("steps(" + n + ", " + corner + ", " + axis + ", " + length + ")",
          shop.steps(n, corner, axis, length), floor.steps(n, corner, axis, length));
    }

    void compareAll() {
      for (int what = 0; what < 7; what++) {
        due("count(" + what + ")", shop.count(what), floor.count(what));
      }
      due("clash()", shop.clash(), floor.clash());
      for (int n = 0; n < floor.halves.size(); n++) {
        for (int corner = 0; corner < 3; corner++) {
          for (int i = 0; i < 5; i++) {
            due("corner(" + n + ", " + corner + ", " + i + ")", shop.corner(n, corner, i), floor.corner(n, corner, i));
          }
        }
      }
    }
  }

  // Points, as four numbers each, with the product of two of them.

  private static final long[] G = {0, 0, -1, -1};
  private static final long[] ONE_BY_G = {-1, 0, -1, -1};

  private static long[] plus(long[] p, long[] q) {
    return new long[] {p[0] + q[0], p[1] + q[1], p[2] + q[2], p[3] + q[3]};
  }

  private static long[] minus(long[] p, long[] q) {
    return new long[] {p[0] - q[0], p[1] - q[1], p[2] - q[2], p[3] - q[3]};
  }

  private static long[] times(long[] p, long[] q) {
    long[] powers = new long[5];
    for (int i = 0; i < 4; i++) {
      for (int j = 0; j < 4; j++) {
        powers[(i + j) % 5] += p[i] * q[j];
      }
    }
    return new long[] {powers[0] - powers[4], powers[1] - powers[4], powers[2] - powers[4], powers[3] - powers[4]};
  }

  private static long[] mirror(long[] p) {
    return new long[] {p[0] - p[1], -p[1], p[3] - p[1], p[2] - p[1]};
  }

  private static long[] unit(int k) {
    long[] unit = {1, 0, 0, 0};
    for (int i = 0; i < Math.floorMod(k, 10); i++) {
      unit = times(unit, new long[] {0, 0, 0, -1});
    }
    return unit;
  }

  private static int goldenSign(long p, long q) {
    // p + q G = (2 p + q + q sqrt 5) / 2
    BigInteger plain = BigInteger.valueOf(p).shiftLeft(1).add(BigInteger.valueOf(q));
    BigInteger root = BigInteger.valueOf(q);
    if (plain.signum() * root.signum() >= 0) {
      return plain.signum() != 0 ? plain.signum() : root.signum();
    }
    int order = plain.multiply(plain).compareTo(root.multiply(root).multiply(BigInteger.valueOf(5)));
    return order == 0 ? 0 : order > 0 ? plain.signum() : root.signum();
  }

  /** 1 if r is to the left of the way from p to q. */
  private static int turn(long[] p, long[] q, long[] r) {
    long[] w = times(mirror(minus(q, p)), minus(r, p));
    return goldenSign(w[2] - w[3], w[1]);
  }

  /** The sign of the way from r to s, along the way from p to q. */
  private static int along(long[] p, long[] q, long[] r, long[] s) {
    long[] w = times(mirror(minus(q, p)), minus(s, r));
    return goldenSign(2 * w[0] - w[1], w[1] - w[2] - w[3]);
  }

  private static double right(long[] p) {
    return p[0] + p[1] * Math.cos(Math.PI * 0.4) + (p[2] + p[3]) * Math.cos(Math.PI * 0.8);
  }

  private static double up(long[] p) {
    return p[1] * Math.sin(Math.PI * 0.4) + (p[2] - p[3]) * Math.sin(Math.PI * 0.8);
  }

  private static boolean within(long[] p) {
    for (long number : p) {
      if (Math.abs(number) > LIMIT) {
        return false;
      }
    }
    return true;
  }

  private record Edge(long[] from, long[] to, int mark) {
    boolean same(Edge other) {
      return mark == other.mark && Arrays.equals(from, other.from) && Arrays.equals(to, other.to);
    }

    boolean shares(Edge other) {
      if (turn(from, to, other.from) != 0 || turn(from, to, other.to) != 0) {
        return false;
      }
      boolean forth = along(from, to, other.from, other.to) > 0;
      long[] first = forth ? other.from : other.to;
      long[] last = forth ? other.to : other.from;
      return along(from, to, first, to) > 0 && along(from, to, from, last) > 0;
    }
  }

  private record Half(int type, long[] a, long[] b, long[] c) {
    long[] corner(int corner) {
      return corner == 0 ? a : corner == 1 ? b : c;
    }

    Edge[] edges() {
      return new Edge[] {
        type == 0 ? new Edge(a, b, 0) : new Edge(b, a, 0), new Edge(a, c, 1), new Edge(b, c, type == 0 ? 2 : 3)
      };
    }

    boolean within() {
      return RandomRunsTest.within(a) && RandomRunsTest.within(b) && RandomRunsTest.within(c);
    }

    boolean holds(long[] p) {
      for (int i = 0; i < 3; i++) {
        long[] q = corner(i);
        long[] r = corner((i + 1) % 3);
        if (turn(q, r, corner((i + 2) % 3)) * turn(q, r, p) < 0) {
          return false;
        }
      }
      return true;
    }

    boolean parts(Half other) {
      for (int i = 0; i < 3; i++) {
        long[] q = corner(i);
        long[] r = corner((i + 1) % 3);
        int own = turn(q, r, corner((i + 2) % 3));
        if (own * turn(q, r, other.a) <= 0 && own * turn(q, r, other.b) <= 0 && own * turn(q, r, other.c) <= 0) {
          return true;
        }
      }
      return false;
    }

    boolean clashes(Half other) {
      double x = right(a) - right(other.a);
      double y = up(a) - up(other.a);
      if (x * x + y * y > 16) {
        return false;
      }
      if (!parts(other) && !other.parts(this)) {
        return true;
      }
      for (Edge edge : edges()) {
        for (Edge its : other.edges()) {
          if (!edge.same(its) && edge.shares(its)) {
            return true;
          }
        }
      }
      return false;
    }

    /** Which of the ten directions this half covers at a corner. */
    List<Integer> sectors(int corner) {
      int first = direction(corner(corner), corner((corner + 1) % 3));
      int last = direction(corner(corner), corner((corner + 2) % 3));
      if (Math.floorMod(last - first, 10) > 5) {
        int swap = first;
        first = last;
        last = swap;
      }
      List<Integer> sectors = new ArrayList<>();
      for (int k = first; k != last; k = (k + 1) % 10) {
        sectors.add(k);
      }
      return sectors;
    }

    static int direction(long[] p, long[] q) {
      long[] way = minus(q, p);
      return Math.floorMod((int) Math.round(Math.atan2(up(way), right(way)) / (Math.PI / 5)), 10);
    }
  }

  private static final class SlowFloor {
    private static final MathContext DIGITS = new MathContext(90);
    private static final BigDecimal ROOT = new BigDecimal(5).sqrt(DIGITS);

    List<Half> halves = new ArrayList<>();
    int level = 0;

    int seed(int kind) {
      if (kind < 0 || kind > 3) {
        return NONE;
      }
      halves = new ArrayList<>();
      level = 0;
      long[] zero = new long[4];
      for (int k = 0; kind == 0 && k < 10; k++) {
        halves.add(new Half(0, zero, unit(k % 2 == 0 ? k : k + 1), unit(k % 2 == 0 ? k + 1 : k)));
      }
      if (kind == 1) {
        halves.add(new Half(0, zero, unit(0), unit(1)));
      }
      if (kind == 2) {
        halves.add(new Half(1, zero, unit(0), unit(3)));
      }
      return halves.size();
    }

    int place(int type, int a, int b, int c, int d, int k, boolean left) {
      if (type < 0 || type > 1 || k < 0 || k > 9 || halves.size() == 400) {
        return NONE;
      }
      long[] at = {a, b, c, d};
      int angle = type == 0 ? 1 : 3;
      Half half = new Half(type, at, plus(at, unit(k)), plus(at, unit(left ? k + angle : k - angle)));
      if (!half.within()) {
        return NONE;
      }
      for (Half other : halves) {
        if (other.clashes(half)) {
          return NONE;
        }
      }
      halves.add(half);
      return halves.size() - 1;
    }

    boolean remove(int n) {
      if (n < 0 || n >= halves.size()) {
        return false;
      }
      halves.remove(n);
      return true;
    }

    int inflate() {
      List<Half> next = new ArrayList<>();
      for (Half half : halves) {
        long[] a = times(half.a, G);
        long[] b = times(half.b, G);
        long[] c = times(half.c, G);
        if (half.type == 0) {
          long[] p = plus(a, times(minus(b, a), ONE_BY_G));
          next.add(new Half(0, c, p, b));
          next.add(new Half(1, p, c, a));
        } else {
          long[] q = plus(b, times(minus(a, b), ONE_BY_G));
          long[] r = plus(b, times(minus(c, b), ONE_BY_G));
          next.add(new Half(1, r, c, a));
          next.add(new Half(1, q, r, b));
          next.add(new Half(0, r, q, a));
        }
      }
      if (next.size() > 400 || !allWithin(next)) {
        return NONE;
      }
      halves = next;
      level++;
      return halves.size();
    }

    int deflate() {
      if (halves.isEmpty()) {
        return NONE;
      }
      List<Half> next = new ArrayList<>();
      Set<Integer> used = new HashSet<>();
      for (int x = 0; x < halves.size(); x++) {
        Half half = halves.get(x);
        if (half.type != 0) {
          continue;
        }
        int n = -1;
        int m = -1;
        for (int i = halves.size() - 1; i >= 0; i--) {
          Half other = halves.get(i);
          if (other.type == 1 && Arrays.equals(other.a, half.b) && Arrays.equals(other.b, half.a)) {
            n = i;
          }
          if (i != x && Arrays.equals(other.a, half.a) && Arrays.equals(other.c, half.c)) {
            m = i;
          }
        }
        if (n < 0 || m < 0 || used.contains(n)) {
          continue;
        }
        if (halves.get(m).type == 0) {
          next.add(smaller(0, halves.get(n).c, half.c, half.a));
          used.addAll(List.of(x, n));
          see("joined 0");
        } else if (!used.contains(m)) {
          next.add(smaller(1, half.c, halves.get(n).c, halves.get(m).b));
          used.addAll(List.of(x, n, m));
          see("joined 1");
        }
      }
      if (!allWithin(next)) {
        return NONE;
      }
      int leftOut = halves.size() - used.size();
      halves = next;
      level--;
      return leftOut;
    }

    private static Half smaller(int type, long[] a, long[] b, long[] c) {
      return new Half(type, times(a, ONE_BY_G), times(b, ONE_BY_G), times(c, ONE_BY_G));
    }

    private static boolean allWithin(List<Half> list) {
      return list.stream().allMatch(Half::within);
    }

    int clash() {
      for (int n = 0; n < halves.size(); n++) {
        for (int m = 0; m < n; m++) {
          if (halves.get(n).clashes(halves.get(m))) {
            return n + 1;
          }
        }
      }
      return 0;
    }

    int count(int what) {
      Map<Set<String>, Integer> edges = new HashMap<>();
      Set<String> points = new HashSet<>();
      Map<String, Integer> bases = new HashMap<>();
      int[] types = new int[2];
      for (Half half : halves) {
        types[half.type]++;
        for (Edge edge : half.edges()) {
          edges.merge(Set.of(Arrays.toString(edge.from), Arrays.toString(edge.to)), 1, Integer::sum);
          points.add(Arrays.toString(edge.from));
          points.add(Arrays.toString(edge.to));
        }
        bases.merge(half.type + Arrays.toString(half.b) + Arrays.toString(half.c), 1, Integer::sum);
      }
      switch (what) {
        case 0: return halves.size();
        case 1: return types[0];
        case 2: return types[1];
        case 3: return level;
        case 4: return (int) edges.values().stream().filter(many -> many == 1).count();
        case 5: return points.size();
        case 6: return bases.values().stream().filter(many -> many > 1).mapToInt(many -> many).sum();
        default: return NONE;
      }
    }

    private boolean has(int n, int corner) {
      return n >= 0 && n < halves.size() && corner >= 0 && corner <= 2;
    }

    int corner(int n, int corner, int i) {
      if (!has(n, corner) || i < 0 || i > 4) {
        return -2000000;
      }
      return i == 4 ? halves.get(n).type : (int) halves.get(n).corner(corner)[i];
    }

    int star(int n, int corner, int what) {
      if (!has(n, corner) || what < 0 || what > 2) {
        return NONE;
      }
      long[] at = halves.get(n).corner(corner);
      List<Half> round = new ArrayList<>();
      int angles = 0;
      Set<Integer> covered = new HashSet<>();
      for (Half half : halves) {
        for (int i = 0; i < 3; i++) {
          if (Arrays.equals(half.corner(i), at)) {
            round.add(half);
            angles += half.sectors(i).size();
            covered.addAll(half.sectors(i));
          }
        }
      }
      if (what == 2) {
        for (Half one : round) {
          for (Half other : round) {
            if (one != other && one.clashes(other)) {
              return 0;
            }
          }
        }
        return covered.size() == 10 ? 1 : 0;
      }
      return what == 0 ? round.size() : angles;
    }

    int inside(int a, int b, int c, int d) {
      long[] at = {a, b, c, d};
      for (int n = 0; RandomRunsTest.within(at) && n < halves.size(); n++) {
        if (halves.get(n).holds(at)) {
          return n;
        }
      }
      return NONE;
    }

    long steps(int n, int corner, int axis, int length) {
      if (!has(n, corner) || axis < 0 || axis > 1 || length < 1 || length > 10000000) {
        return 0;
      }
      long[] p = halves.get(n).corner(corner);
      BigDecimal place;
      if (axis == 0) {
        place = BigDecimal.valueOf(p[1] - p[2] - p[3]).multiply(ROOT).add(BigDecimal.valueOf(4 * p[0] - p[1] - p[2] - p[3]))
            .divide(BigDecimal.valueOf(4));
      } else {
        BigDecimal high = BigDecimal.TEN.add(ROOT.add(ROOT)).sqrt(DIGITS).divide(BigDecimal.valueOf(4));
        BigDecimal low = BigDecimal.TEN.subtract(ROOT.add(ROOT)).sqrt(DIGITS).divide(BigDecimal.valueOf(4));
        place = high.multiply(BigDecimal.valueOf(p[1])).add(low.multiply(BigDecimal.valueOf(p[2] - p[3])));
      }
      return place.multiply(BigDecimal.valueOf(length)).add(new BigDecimal("0.5")).setScale(0, RoundingMode.FLOOR).longValueExact();
    }
  }
}
