import java.util.ArrayList;
import java.util.Arrays;
import java.util.List;
import java.util.function.ToLongFunction;

/**
 * Each sentence of the document that names a boundary case, by a test of its own. No object gets
 * more than 512 calls, and what is refused is compared with a patch that never heard of it.
 */
public final class BoundaryTest {
  private static final int NONE = -1;
  private static final int NO_NUMBER = -2000000;
  private static final int LIMIT = 1000000;
  private static final int MIN = Integer.MIN_VALUE;
  private static final int MAX = Integer.MAX_VALUE;
  private static final int[][] E = {{1, 0, 0, 0}, {0, 0, 0, -1}, {0, 1, 0, 0}, {1, 1, 1, 1}, {0, 0, 1, 0},
      {-1, 0, 0, 0}, {0, 0, 0, 1}, {0, -1, 0, 0}, {-1, -1, -1, -1}, {0, 0, -1, 0}};

  private static int wrong = 0;
  private static String test = "";

  public static void main(String[] args) {
    terms();
    makingAndSeeding();
    placing();
    removing();
    dividing();
    puttingTogether();
    asking();
    measuring();
    System.out.println(wrong == 0 ? "all answers are as due" : wrong + " answers are not as due");
    if (wrong != 0) {
      System.exit(1);
    }
  }

  private static void run(String name, Runnable body) {
    test = name;
    body.run();
  }

  private static void due(String call, long got, long want) {
    if (got != want) {
      wrong++;
      System.out.println(test + ": " + call + " answered " + got + ", due is " + want);
    }
  }

  private static void dueTrue(String what, boolean holds) {
    due(what, holds ? 1 : 0, 1);
  }

  /** A FloorShop that is made anew, with the same changes, whenever it has had its 512 calls. */
  private static final class Patch {
    private static final int MOST_CALLS = 512;

    final List<ToLongFunction<FloorShop>> changes = new ArrayList<>();
    FloorShop shop = new FloorShop();
    int calls = 0;

    Patch copy() {
      Patch copy = new Patch();
      changes.forEach(copy::change);
      return copy;
    }

    long change(ToLongFunction<FloorShop> call) {
      if (calls == MOST_CALLS) {
        renew();
      }
      changes.add(call);
      calls++;
      return call.applyAsLong(shop);
    }

    long ask(ToLongFunction<FloorShop> call) {
      if (calls == MOST_CALLS) {
        renew();
      }
      calls++;
      return call.applyAsLong(shop);
    }

    private void renew() {
      if (changes.size() >= MOST_CALLS) {
        throw new IllegalStateException("the test makes too many calls");
      }
      shop = new FloorShop();
      changes.forEach(call -> call.applyAsLong(shop));
      calls = changes.size();
    }

    int seed(int kind) {
      return (int) change(x -> x.seed(kind));
    }

    int place(int type, int a, int b, int c, int d, int k, boolean left) {
      return (int) change(x -> x.place(type, a, b, c, d, k, left));
    }

    int place(int type, long[] at, int k, boolean left) {
      return place(type, (int) at[0], (int) at[1], (int) at[2], (int) at[3], k, left);
    }

    boolean remove(int n) {
      return change(x -> x.remove(n) ? 1 : 0) == 1;
    }

    int inflate() {
      return (int) change(FloorShop::inflate);
    }

    int deflate() {
      return (int) change(FloorShop::deflate);
    }

    int clash() {
      return (int) ask(FloorShop::clash);
    }

    int count(int what) {
      return (int) ask(x -> x.count(what));
    }

    int corner(int n, int corner, int i) {
      return (int) ask(x -> x.corner(n, corner, i));
    }

    int star(int n, int corner, int what) {
      return (int) ask(x -> x.star(n, corner, what));
    }

    int inside(int a, int b, int c, int d) {
      return (int) ask(x -> x.inside(a, b, c, d));
    }

    int inside(long[] at) {
      return inside((int) at[0], (int) at[1], (int) at[2], (int) at[3]);
    }

    long steps(int n, int corner, int axis, int length) {
      return ask(x -> x.steps(n, corner, axis, length));
    }

    /** All numbers of all halves, and what else can be asked. */
    String state() {
      StringBuilder text = new StringBuilder();
      for (int what = 0; what < 7; what++) {
        text.append(count(what)).append(' ');
      }
      int size = count(0);
      for (int n = 0; n < size; n++) {
        text.append(corner(n, 0, 4)).append(": ");
        for (int i = 0; i < 12; i++) {
          text.append(corner(n, i / 4, i % 4)).append(' ');
        }
        if (n % 40 == 0) {
          text.append(star(n, 0, 0)).append(' ').append(star(n, 1, 1)).append(' ').append(star(n, 2, 2)).append(' ');
          text.append(inside(corner(n, 1, 0), corner(n, 1, 1), corner(n, 1, 2), corner(n, 1, 3))).append(' ');
          text.append(steps(n, 2, 0, 1000)).append(' ').append(steps(n, 2, 1, 1000)).append(' ');
        }
      }
      return text.append(clash()).append(' ').append(inside(0, 0, 0, 0)).toString();
    }
  }

  /** A call that is refused, and what comes later goes on as if it had never been made. */
  private static void refused(String call, Patch patch, ToLongFunction<FloorShop> refusal) {
    refused(call, patch, refusal, NONE);
  }

  private static void refused(String call, Patch patch, ToLongFunction<FloorShop> refusal, long answer) {
    Patch twin = patch.copy();
    Patch own = patch.copy();
    due(call, own.change(refusal), answer);
    dueTrue(call + " changes nothing", own.state().equals(twin.state()));
    List<ToLongFunction<FloorShop>> later = List.of(x -> x.remove(0) ? 1 : 0, x -> x.place(1, -40, 3, 0, 0, 7, true),
        FloorShop::deflate, x -> x.place(0, 60, 0, -2, 0, 3, false), FloorShop::inflate, FloorShop::inflate);
    for (ToLongFunction<FloorShop> next : later) {
      due("what comes after " + call, own.change(next), twin.change(next));
    }
    dueTrue("what comes after " + call, own.state().equals(twin.state()));
  }

  private static void dueCorner(String when, Patch patch, int n, int corner, long... want) {
    for (int i = 0; i < 4; i++) {
      due(when + ": corner(" + n + ", " + corner + ", " + i + ")", patch.corner(n, corner, i), want[i]);
    }
  }

  private static long[] at(long a, long b, long c, long d) {
    return new long[] {a, b, c, d};
  }

  private static long[] plus(long[] p, int[] q) {
    return at(p[0] + q[0], p[1] + q[1], p[2] + q[2], p[3] + q[3]);
  }

  private static long[] way(long[] from, long[] to) {
    return at(to[0] - from[0], to[1] - from[1], to[2] - from[2], to[3] - from[3]);
  }

  private static long[] negative(long[] p) {
    return at(-p[0], -p[1], -p[2], -p[3]);
  }

  /** G is -Z^2 - Z^3, and Z^4 is -1 - Z - Z^2 - Z^3. */
  private static long[] timesG(long[] p) {
    return at(p[1] - p[3], p[1] + p[2] - p[3], p[1] + p[2] - p[0], p[2] - p[0]);
  }

  private static long[] byG(long[] p) {
    return way(p, timesG(p));
  }

  private static long[] cut(long[] from, long[] to) {
    long[] part = byG(way(from, to));
    return at(from[0] + part[0], from[1] + part[1], from[2] + part[2], from[3] + part[3]);
  }

  /** 1 / G to a power: on the way from 0 to 1. */
  private static long[] near(int power) {
    long[] p = {1, 0, 0, 0};
    for (int i = 0; i < power; i++) {
      p = byG(p);
    }
    return p;
  }

  private static boolean within(long[]... points) {
    return farthest(points) <= LIMIT;
  }

  private static long farthest(long[]... points) {
    long farthest = 0;
    for (long[] point : points) {
      for (long number : point) {
        farthest = Math.max(farthest, Math.abs(number));
      }
    }
    return farthest;
  }

  private static int turned(int k, int by) {
    return Math.floorMod(k + by, 10);
  }

  private static Patch seeded(int kind) {
    Patch patch = new Patch();
    patch.seed(kind);
    return patch;
  }

  /** Halves of a type far from one another: the n-th has its A at 3 n. */
  private static void scatter(Patch patch, int type, int from, int to) {
    for (int n = from; n < to; n++) {
      due("place number " + n, patch.place(type, 3 * n, 0, 0, 0, 0, true), patch.changes.size() - 1);
    }
  }

  private static Patch scattered(int zeros, int ones) {
    Patch patch = new Patch();
    scatter(patch, 0, 0, zeros);
    scatter(patch, 1, zeros, zeros + ones);
    return patch;
  }

  /** X of TYPE 0 with its N, and an M of a type. */
  private static void placeThree(Patch patch, int typeOfM, long[] at, int k, boolean left) {
    int side = left ? 1 : -1;
    patch.place(0, at, k, left);
    patch.place(1, plus(at, E[k]), turned(k, 5), left);
    patch.place(typeOfM, at, turned(k, side * (typeOfM == 0 ? 2 : 4)), !left);
  }

  // Six halves of which two come to be, whose edges BC and AC lie along each other with different ends.
  private static final int X = 0;
  private static final int OTHER_X = 4;

  private static void placeSixth(Patch patch, int which, int a) {
    switch (which) {
      case 0 -> patch.place(0, a, 0, 0, 0, 0, true);
      case 1 -> patch.place(1, a + 1, 0, 0, 0, 5, true);
      case 2 -> patch.place(1, a, 0, 0, 0, 4, false);
      case 3 -> patch.place(1, a - 1, -1, -1, -1, 3, false);
      case 4 -> patch.place(0, a, 0, 0, 0, 8, false);
      default -> patch.place(0, a, 0, 0, 0, 6, true);
    }
  }

  private static Patch clashingPatch() {
    Patch patch = new Patch();
    for (int which = 0; which < 6; which++) {
      placeSixth(patch, which, 0);
    }
    due("six halves", patch.count(0), 6);
    due("no two clash", patch.clash(), 0);
    due("one is left out", patch.deflate(), 1);
    return patch;
  }

  // Terms.

  private static void terms() {
    run("a number of 1000000 on either side", BoundaryTest::numbersAtTheLimit);
    run("at most 400 halves, numbered in the order in which they came", BoundaryTest::fourHundred);
    run("insides with a point in common clash", BoundaryTest::insidesClash);
    run("edges with one point in common do not clash", BoundaryTest::onePointIsNoClash);
    run("edges along each other with different ends clash", BoundaryTest::differentEndsClash);
    run("the same edge with another mark clashes", BoundaryTest::otherMarkClashes);
    run("the same edge in another direction clashes", BoundaryTest::otherDirectionClashes);
    run("the same edge with the same mark and direction does not clash", BoundaryTest::sameEdgeIsNoClash);
  }

  private static void numbersAtTheLimit() {
    for (int i = 0; i < 4; i++) {
      for (int side = -1; side <= 1; side += 2) {
        Patch patch = new Patch();
        long[] p = new long[4];
        p[i] = side * LIMIT;
        // E(k) and E(k + 1) leave number i as it is, or bring it nearer to 0.
        for (int k = 0; k < 10 && patch.count(0) == 0; k++) {
          if (side * E[k][i] <= 0 && side * E[turned(k, 1)][i] <= 0) {
            due("place at the limit", patch.place(0, p, k, true), 0);
          }
        }
        dueCorner("at the limit", patch, 0, 0, p);
        due("inside at the limit", patch.inside(p), 0);
        p[i] += side;
        due("inside beyond it", patch.inside(p), NONE);
      }
    }
  }

  private static void fourHundred() {
    Patch patch = scattered(200, 200);
    due("count(0)", patch.count(0), 400);
    for (int n = 0; n < 400; n++) {
      due("its type", patch.corner(n, 0, 4), n / 200);
      due("its place", patch.corner(n, 0, 0), 3 * n);
    }
    due("beyond the last", patch.corner(400, 0, 4), NO_NUMBER);
    refused("the 401st", patch, x -> x.place(0, -5, 0, 0, 0, 0, true));
  }

  private static void insidesClash() {
    Patch patch = seeded(1);
    refused("the same half", patch, x -> x.place(0, 0, 0, 0, 0, 0, true));
    refused("the whole of it within", patch, x -> x.place(1, 0, 0, 0, 0, 9, true));
    // From 1 / G + E(1), on its right, to 1 / G on its edge AB, and to a point on its left.
    refused("a part of it", patch, x -> x.place(0, -1, 0, -1, -2, 5, true));
    long[] hair = near(26);
    for (int side = -1; side <= 1; side += 2) {
      int s = side;
      refused("nearly the same half", patch,
          x -> x.place(0, (int) (s * hair[0]), (int) (s * hair[1]), (int) (s * hair[2]), (int) (s * hair[3]), 0, true));
    }
  }

  private static void onePointIsNoClash() {
    Patch patch = seeded(1);
    due("a corner at a corner", patch.place(0, 0, 0, 0, 0, 5, true), 1);
    due("an edge that goes on along the line", patch.place(0, 1, 0, 0, 0, 0, true), 2);
    // 1 / G is a point within the edge AB.
    due("a corner at the middle of an edge", patch.place(0, -1, 0, -1, -1, 7, true), 3);
    due("clash()", patch.clash(), 0);
    long[] hair = near(27);
    Patch other = seeded(1);
    due("a hair's breadth from the end of an edge, on its line", other.place(0, plus(hair, E[0]), 0, true), 1);
    due("clash()", other.clash(), 0);
    refused("a hair's breadth before the end of the edge", seeded(1), x -> x.place(0,
        (int) (1 - hair[0]), (int) -hair[1], (int) -hair[2], (int) -hair[3], 0, false));
  }

  private static void differentEndsClash() {
    // The seed's edge AB is from 0 to 1, the half above it; the others lie below.
    Patch patch = seeded(1);
    refused("AB on a part of AB", patch, x -> x.place(0, -1, 0, -1, -1, 0, false));
    // BC of TYPE 1 is from 0 to G, that of TYPE 0 from 0 to 1 / G.
    refused("BC of TYPE 1 beyond the end of AB", patch, x -> x.place(1, 0, 0, -1, 0, 4, false));
    refused("BC of TYPE 0 not to the end of AB", patch, x -> x.place(0, -1, -1, -1, -1, 3, false));
    Patch one = seeded(2);
    refused("AB on a part of BC", one, x -> x.place(0, 1, 0, 0, 0, 4, false));
    Patch clashing = clashingPatch();
    due("AC on a part of BC, put together", clashing.clash(), 2);
  }

  private static void otherMarkClashes() {
    Patch patch = seeded(1);
    refused("AC at AB", patch, x -> x.place(0, 0, 0, 0, 0, 9, true));
    refused("AB at AC", patch, x -> x.place(0, 0, 0, 0, 0, 1, true));
    refused("AC of TYPE 1 at AB", patch, x -> x.place(1, 0, 0, 0, 0, 7, true));
    refused("AC of TYPE 0 at AB of TYPE 1", seeded(2), x -> x.place(0, 1, 0, 0, 0, 6, false));
  }

  private static void otherDirectionClashes() {
    Patch patch = seeded(1);
    refused("AB from B to A", patch, x -> x.place(0, 1, 0, 0, 0, 5, true));
    refused("AC from C to A", patch, x -> x.place(0, 0, 0, 0, -1, 5, true));
    refused("AB of TYPE 1 from A to B", patch, x -> x.place(1, 0, 0, 0, 0, 0, false));
    // The half on the other side of BC has its A at E(0) + E(1).
    refused("BC from C to B", patch, x -> x.place(0, 1, 0, 0, -1, 5, true));
    refused("BC of TYPE 1 from C to B", seeded(2), x -> x.place(1, 2, 1, 1, 1, 5, true));
  }

  private static void sameEdgeIsNoClash() {
    Patch patch = seeded(1);
    due("AB at AB", patch.place(0, 0, 0, 0, 0, 0, false), 1);
    due("AC at AC", patch.place(0, 0, 0, 0, 0, 2, false), 2);
    due("BC at BC", patch.place(0, 1, 0, 0, -1, 6, false), 3);
    due("clash()", patch.clash(), 0);
    due("lone edges", patch.count(4), 6);
    Patch one = seeded(2);
    due("AB of TYPE 1 at AB", one.place(1, 0, 0, 0, 0, 0, false), 1);
    due("AC of TYPE 1 at AC", one.place(1, 0, 0, 0, 0, 6, false), 2);
    due("clash()", one.clash(), 0);
    Patch both = seeded(2);
    due("BC of TYPE 1 at BC", both.place(1, 2, 1, 1, 1, 8, false), 1);
    due("AB of TYPE 0 at AB of TYPE 1, from B to A", both.place(0, 1, 0, 0, 0, 5, true), 2);
    due("clash()", both.clash(), 0);
  }

  // Promises 1 and 2.

  private static void makingAndSeeding() {
    run("a new object: an empty patch, level 0", BoundaryTest::emptyPatch);
    run("seed: kinds 0 to 3", BoundaryTest::kinds);
    run("seed: level 0", BoundaryTest::seedPutsLevelBack);
    run("seed: another kind", BoundaryTest::otherKinds);
  }

  private static void emptyPatch() {
    for (int what = 0; what < 7; what++) {
      due("count(" + what + ")", new Patch().count(what), 0);
    }
    Patch patch = new Patch();
    due("clash()", patch.clash(), 0);
    due("corner(0, 0, 0)", patch.corner(0, 0, 0), NO_NUMBER);
    due("corner(0, 0, 4)", patch.corner(0, 0, 4), NO_NUMBER);
    due("star(0, 0, 0)", patch.star(0, 0, 0), NONE);
    due("inside(0, 0, 0, 0)", patch.inside(0, 0, 0, 0), NONE);
    due("steps(0, 0, 0, 1)", patch.steps(0, 0, 0, 1), 0);
    refused("remove(0)", patch, x -> x.remove(0) ? 1 : 0, 0);
    refused("deflate()", patch, FloorShop::deflate);
    due("inflate()", patch.inflate(), 0);
    due("level", patch.count(3), 1);
    Patch first = new Patch();
    due("the first half", first.place(1, 0, 0, 0, 0, 0, true), 0);
    due("another object has none", new Patch().count(0), 0);
  }

  private static void kinds() {
    int[] sizes = {10, 1, 1, 0};
    for (int kind = 0; kind < 4; kind++) {
      Patch patch = new Patch();
      due("seed(" + kind + ")", patch.seed(kind), sizes[kind]);
      due("count(0)", patch.count(0), sizes[kind]);
      due("count(2)", patch.count(2), kind == 2 ? 1 : 0);
      due("seed(" + kind + ") again", patch.seed(kind), sizes[kind]);
      due("count(0)", patch.count(0), sizes[kind]);
    }
    Patch sun = seeded(0);
    for (int k = 0; k < 10; k++) {
      dueCorner("sun", sun, k, 0, 0, 0, 0, 0);
      dueCorner("sun", sun, k, k % 2 == 0 ? 1 : 2, plus(new long[4], E[k]));
      // Number 9 has E(10), which is E(0) again.
      dueCorner("sun", sun, k, k % 2 == 0 ? 2 : 1, plus(new long[4], E[(k + 1) % 10]));
    }
    dueCorner("kind 1", seeded(1), 0, 2, 0, 0, 0, -1);
    dueCorner("kind 2", seeded(2), 0, 2, 1, 1, 1, 1);
  }

  private static void seedPutsLevelBack() {
    for (int kind = 0; kind < 4; kind++) {
      Patch grown = seeded(0);
      grown.inflate();
      grown.inflate();
      due("level", grown.count(3), 2);
      grown.seed(kind);
      due("level after seed", grown.count(3), 0);
      Patch below = seeded(1);
      due("deflate() of one", below.deflate(), 1);
      due("level", below.count(3), -1);
      below.seed(kind);
      due("level after seed", below.count(3), 0);
    }
    Patch full = scattered(400, 0);
    due("seed in place of 400", full.seed(1), 1);
    due("count(0)", full.count(0), 1);
    due("where the others were", full.inside(9, 0, 0, 0), NONE);
    due("there is room again", full.place(0, 9, 0, 0, 0, 0, true), 1);
  }

  private static void otherKinds() {
    Patch grown = seeded(2);
    grown.inflate();
    for (int kind : new int[] {-1, 4, 5, MIN, MAX}) {
      refused("seed(" + kind + ")", grown, x -> x.seed(kind));
      refused("seed(" + kind + ")", new Patch(), x -> x.seed(kind));
    }
  }

  // Promise 3.

  private static void placing() {
    run("place: every type, k and side", BoundaryTest::everyWay);
    run("place: no such type", BoundaryTest::noSuchType);
    run("place: k is not 0 .. 9", BoundaryTest::noSuchDirection);
    run("place: a number of A is not within 1000000", BoundaryTest::cornerTooFar);
    run("place: a number of B or C is not within 1000000", BoundaryTest::otherCornersTooFar);
    run("place: there are 400", BoundaryTest::noRoom);
    run("place: it clashes", BoundaryTest::placeClashes);
  }

  private static void everyWay() {
    for (int way = 0; way < 40; way++) {
      int type = way % 2;
      int k = way / 4;
      boolean left = way / 2 % 2 == 0;
      Patch patch = new Patch();
      due("place", patch.place(type, 7, -8, 9, -10, k, left), 0);
      due("type", patch.corner(0, 0, 4), type);
      long[] a = at(7, -8, 9, -10);
      dueCorner("A", patch, 0, 0, a);
      dueCorner("B", patch, 0, 1, plus(a, E[k]));
      dueCorner("C", patch, 0, 2, plus(a, E[turned(k, (type == 0 ? 1 : 3) * (left ? 1 : -1))]));
    }
  }

  private static void noSuchType() {
    for (int type : new int[] {-1, 2, 3, MIN, MAX}) {
      refused("place of type " + type, new Patch(), x -> x.place(type, 0, 0, 0, 0, 0, true));
      refused("place of type " + type, seeded(1), x -> x.place(type, 20, 0, 0, 0, 0, false));
    }
  }

  private static void noSuchDirection() {
    for (int k : new int[] {-1, 10, 11, -10, MIN, MAX}) {
      for (int type = 0; type < 2; type++) {
        int t = type;
        refused("place with k " + k, new Patch(), x -> x.place(t, 0, 0, 0, 0, k, true));
        refused("place with k " + k, seeded(2), x -> x.place(t, 20, 0, 0, 0, k, false));
      }
    }
    due("k 0", new Patch().place(0, 0, 0, 0, 0, 0, true), 0);
    due("k 9", new Patch().place(0, 0, 0, 0, 0, 9, true), 0);
  }

  private static void cornerTooFar() {
    for (int i = 0; i < 4; i++) {
      for (int far : new int[] {LIMIT + 1, -LIMIT - 1, MAX, MIN, MAX - 1, MIN + 1}) {
        int[] p = new int[4];
        p[i] = far;
        for (int k = 0; k < 10; k++) {
          int way = k;
          due("place", new Patch().place(0, p[0], p[1], p[2], p[3], k, true), NONE);
          if (k % 5 == 0) {
            refused("place", seeded(1), x -> x.place(1, p[0], p[1], p[2], p[3], way, false));
          }
        }
      }
    }
  }

  private static void otherCornersTooFar() {
    for (int way = 0; way < 40; way++) {
      int type = way % 2;
      int k = way / 4;
      boolean left = way / 2 % 2 == 0;
      int[] toB = E[k];
      int[] toC = E[turned(k, (type == 0 ? 1 : 3) * (left ? 1 : -1))];
      for (int i = 0; i < 4; i++) {
        for (int side = -1; side <= 1; side += 2) {
          int most = Math.max(0, Math.max(side * toB[i], side * toC[i]));
          long[] p = {5, 5, 5, 5};
          p[i] = side * (LIMIT - most);
          Patch patch = new Patch();
          due("place just within", patch.place(type, p, k, left), 0);
          p[i] += side;
          due("place just beyond", new Patch().place(type, p, k, left), NONE);
          due("place just beyond, with one there", patch.place(type, p, k, left), NONE);
          due("count(0)", patch.count(0), 1);
        }
      }
    }
    refused("B too far", seeded(0), x -> x.place(0, LIMIT, 0, 0, 0, 0, true));
    refused("C too far", seeded(0), x -> x.place(0, 0, 0, 0, -LIMIT, 0, true));
    refused("both too far", seeded(0), x -> x.place(1, LIMIT, LIMIT, LIMIT, LIMIT, 3, true));
  }

  private static void noRoom() {
    Patch patch = scattered(399, 0);
    due("the 400th", patch.place(1, -10, 0, 0, 0, 0, true), 399);
    refused("the 401st", patch, x -> x.place(1, -20, 0, 0, 0, 0, true));
    due("one goes", patch.remove(200) ? 1 : 0, 1);
    due("there is room for one", patch.place(1, -20, 0, 0, 0, 0, true), 399);
    due("and for no other", patch.place(1, -30, 0, 0, 0, 0, true), NONE);
    due("count(0)", patch.count(0), 400);
  }

  private static void placeClashes() {
    Patch sun = seeded(0);
    for (int k = 0; k < 10; k++) {
      int way = k;
      refused("place in the sun", sun, x -> x.place(0, 0, 0, 0, 0, way, true));
    }
    Patch last = scattered(60, 0);
    refused("it clashes with the last one alone", last, x -> x.place(1, 3 * 59, 0, 0, 0, 0, true));
    refused("it clashes with the first one alone", last, x -> x.place(1, 0, 0, 0, 0, 0, true));
    due("the last one goes", last.remove(59) ? 1 : 0, 1);
    due("then it may come", last.place(1, 3 * 59, 0, 0, 0, 0, true), 59);
  }

  // Promise 4.

  private static void removing() {
    run("remove: those behind it come up", BoundaryTest::othersComeUp);
    run("remove: none such", BoundaryTest::nothingToRemove);
  }

  private static void othersComeUp() {
    for (int n : new int[] {0, 1, 57, 398, 399}) {
      Patch patch = scattered(200, 200);
      dueTrue("remove(" + n + ")", patch.remove(n));
      due("count(0)", patch.count(0), 399);
      due("count(2)", patch.count(2), n < 200 ? 200 : 199);
      for (int m = 0; m < 399; m++) {
        int was = m < n ? m : m + 1;
        due("its type", patch.corner(m, 0, 4), was / 200);
        due("its A", patch.corner(m, 0, 0), 3 * was);
        due("its B", patch.corner(m, 1, 0), 3 * was + 1);
        due("its place", patch.inside(3 * was, 0, 0, 0), m);
      }
      due("where it was", patch.inside(3 * n, 0, 0, 0), NONE);
      due("the last number is free", patch.corner(399, 0, 0), NO_NUMBER);
      due("the next one has it", patch.place(0, 3 * n, 0, 0, 0, 0, true), 399);
    }
    Patch one = seeded(1);
    dueTrue("remove of the only one", one.remove(0));
    due("none is left", one.count(0), 0);
    due("none is left inside", one.inside(0, 0, 0, 0), NONE);
    due("the level stays", one.count(3), 0);
    Patch grown = seeded(0);
    grown.inflate();
    dueTrue("remove(19), the last", grown.remove(19));
    due("the level stays", grown.count(3), 1);
  }

  private static void nothingToRemove() {
    Patch sun = seeded(0);
    for (int n : new int[] {-1, 10, 11, 400, MIN, MAX}) {
      refused("remove(" + n + ")", sun, x -> x.remove(n) ? 1 : 0, 0);
    }
    refused("remove(0) of none", new Patch(), x -> x.remove(0) ? 1 : 0, 0);
    Patch full = scattered(400, 0);
    refused("remove(400) of 400", full, x -> x.remove(400) ? 1 : 0, 0);
    dueTrue("remove(399) of 400", full.remove(399));
    due("remove(399) again", full.remove(399) ? 1 : 0, 0);
  }

  // Promise 5.

  private static void dividing() {
    run("inflate: 400 and no more", BoundaryTest::divideToFourHundred);
    run("inflate: more than 400", BoundaryTest::divideTooMany);
    run("inflate: a number of 1000000 and beyond it", BoundaryTest::divideAtTheLimit);
    run("inflate: the farthest of all", BoundaryTest::divideTheFarthest);
    run("inflate: nothing, and the level", BoundaryTest::divideNothing);
  }

  private static void divideToFourHundred() {
    Patch zeros = scattered(200, 0);
    due("200 of TYPE 0", zeros.inflate(), 400);
    due("count(0)", zeros.count(0), 400);
    due("level", zeros.count(3), 1);
    due("clash()", zeros.clash(), 0);
    // The last half is P, C, A, of the A at 597 G; the last but one C, P, B.
    dueCorner("the last one", zeros, 399, 2, 0, 0, -597, -597);
    dueCorner("the last but one", zeros, 398, 2, 0, 0, -598, -598);
    refused("400 once more", zeros, FloorShop::inflate);
    Patch mixed = scattered(197, 2);
    due("197 of TYPE 0, 2 of TYPE 1", mixed.inflate(), 400);
    Patch ones = scattered(0, 133);
    due("133 of TYPE 1", ones.inflate(), 399);
    Patch less = scattered(2, 132);
    due("2 of TYPE 0, 132 of TYPE 1", less.inflate(), 400);
  }

  private static void divideTooMany() {
    refused("199 of TYPE 0, 1 of TYPE 1: 401", scattered(199, 1), FloorShop::inflate);
    refused("201 of TYPE 0: 402", scattered(201, 0), FloorShop::inflate);
    refused("1 of TYPE 0, 133 of TYPE 1: 401", scattered(1, 133), FloorShop::inflate);
    refused("400 of TYPE 1: 1200", scattered(0, 400), FloorShop::inflate);
    Patch sun = seeded(0);
    for (int i = 0; i < 4; i++) {
      sun.inflate();
    }
    refused("890", sun, FloorShop::inflate);
  }

  /** A place where each number by itself comes near to the limit as the place goes on by a number. */
  private static final long[][] BEFORE_G = {
      {0, 500000, -300000, -500000}, {0, 400000, 300000, -300000}, {-400000, 300000, 300000, 0}, {-500000, -300000, 500000, 0}};
  private static final int[] MOVED_BEFORE_G = {1, 2, 0, 0};

  private static void divideAtTheLimit() {
    for (int i = 0; i < 4; i++) {
      for (int way = 0; way < 40; way++) {
        for (int side = -1; side <= 1; side += 2) {
          divideAcrossTheLimit(i, way, side);
        }
      }
    }
  }

  private static void divideAcrossTheLimit(int i, int way, int side) {
    int type = way % 2;
    int k = way / 4;
    boolean left = way / 2 % 2 == 0;
    boolean reached = false;
    boolean passed = false;
    for (int move = -6; move <= 6; move++) {
      long[] place = side > 0 ? BEFORE_G[i].clone() : negative(BEFORE_G[i]);
      place[MOVED_BEFORE_G[i]] += move;
      long[] a = timesG(place);
      long[] b = timesG(plus(place, E[k]));
      long[] c = timesG(plus(place, E[turned(k, (type == 0 ? 1 : 3) * (left ? 1 : -1))]));
      long[][] all = type == 0 ? new long[][] {a, b, c, cut(a, b)} : new long[][] {a, b, c, cut(b, a), cut(b, c)};
      Patch patch = new Patch();
      due("place", patch.place(type, place, k, left), 0);
      due("inflate() at " + Arrays.toString(place), patch.inflate(), within(all) ? all.length - 2 : NONE);
      due("level", patch.count(3), within(all) ? 1 : 0);
      due("count(0)", patch.count(0), within(all) ? all.length - 2 : 1);
      if (!within(all)) {
        dueCorner("A stays", patch, 0, 0, place);
      }
      reached |= farthest(all) == LIMIT;
      passed |= farthest(all) == LIMIT + 1;
    }
    dueTrue("number " + i + " came to the limit", reached);
    dueTrue("number " + i + " went beyond the limit", passed);
  }

  private static void divideTheFarthest() {
    for (int signs = 0; signs < 16; signs++) {
      long[] place = new long[4];
      for (int i = 0; i < 4; i++) {
        place[i] = (signs >> i & 1) == 0 ? 999998 : -999998;
      }
      boolean fits = within(timesG(place), timesG(plus(place, E[0])), timesG(plus(place, E[1])));
      Patch patch = new Patch();
      due("place", patch.place(0, place, 0, true), 0);
      due("inflate() at " + Arrays.toString(place), patch.inflate(), fits ? 2 : NONE);
      due("level", patch.count(3), fits ? 1 : 0);
    }
    // One half that is too far keeps all others as they are.
    Patch many = scattered(30, 10);
    due("one more", many.place(1, 0, 700000, 0, -700000, 0, true), 40);
    refused("one too far", many, FloorShop::inflate);
    dueTrue("it goes", many.remove(40));
    due("then inflate()", many.inflate(), 90);
  }

  private static void divideNothing() {
    Patch patch = new Patch();
    for (int level = 1; level <= 200; level++) {
      due("inflate() of nothing", patch.inflate(), 0);
      due("level", patch.count(3), level);
    }
    due("count(0)", patch.count(0), 0);
  }

  // Promise 6.

  private static void puttingTogether() {
    run("deflate: there are none", BoundaryTest::putNothingTogether);
    run("deflate: a number of 1000000 and beyond it", BoundaryTest::putTogetherAtTheLimit);
    run("deflate: what is left out may be anywhere", BoundaryTest::leftOutAnywhere);
    run("deflate: those that are not used are left out", BoundaryTest::leftOut);
    run("deflate: N is to be of TYPE 1, and M is to be there", BoundaryTest::noNorM);
    run("deflate: the least N and M are the only ones", BoundaryTest::noSecondNorM);
    run("deflate: N is used", BoundaryTest::usedN);
    run("deflate: M is used", BoundaryTest::usedM);
    run("deflate: M of TYPE 0 may be used", BoundaryTest::usedMOfTypeZero);
    run("deflate: the order is that of X", BoundaryTest::orderOfX);
    run("deflate: 400 halves", BoundaryTest::putFourHundredTogether);
    run("deflate: the level goes below 0", BoundaryTest::levelBelowZero);
  }

  private static void putNothingTogether() {
    refused("deflate() of a new object", new Patch(), FloorShop::deflate);
    refused("deflate() of seed(3)", seeded(3), FloorShop::deflate);
    Patch gone = seeded(1);
    gone.remove(0);
    refused("deflate() when the last one has gone", gone, FloorShop::deflate);
    Patch left = seeded(0);
    due("all are left out", left.deflate(), 10);
    due("level", left.count(3), -1);
    refused("deflate() when all were left out", left, FloorShop::deflate);
    due("level", left.count(3), -1);
  }

  private static final long[][] BEFORE_BY_G = {
      {-300000, 400000, 0, -300000}, {300000, 0, 500000, -500000}, {-500000, 500000, 0, 300000}, {-300000, 0, 400000, -300000}};
  private static final int[] MOVED_BEFORE_BY_G = {1, 2, 1, 2};

  private static void putTogetherAtTheLimit() {
    for (int i = 0; i < 4; i++) {
      for (int way = 0; way < 40; way++) {
        for (int side = -1; side <= 1; side += 2) {
          putTogetherAcrossTheLimit(i, way, side);
        }
      }
    }
    Patch far = new Patch();
    placeThree(far, 1, at(-500000, 500002, 0, 0), 0, true);
    refused("deflate() beyond the limit", far, FloorShop::deflate);
    Patch some = seeded(0);
    some.inflate();
    some.inflate();
    placeThree(some, 0, at(-500000, 500002, 0, 0), 0, true);
    refused("deflate() of some within, one beyond", some, FloorShop::deflate);
  }

  private static void putTogetherAcrossTheLimit(int i, int way, int side) {
    int type = way % 2;
    int k = way / 4;
    boolean left = way / 2 % 2 == 0;
    int turn = left ? 1 : -1;
    boolean reached = false;
    boolean passed = false;
    for (int move = -6; move <= 6; move++) {
      long[] place = side > 0 ? BEFORE_BY_G[i].clone() : negative(BEFORE_BY_G[i]);
      place[MOVED_BEFORE_BY_G[i]] += move;
      long[] endOfX = byG(plus(place, E[turned(k, turn)]));
      long[] endOfN = byG(plus(plus(place, E[k]), E[turned(k, 5 + 3 * turn)]));
      long[] third = byG(type == 0 ? place : plus(place, E[turned(k, 4 * turn)]));
      boolean fits = within(endOfX, endOfN, third);
      Patch patch = new Patch();
      placeThree(patch, type, place, k, left);
      due("three halves", patch.count(0), 3);
      due("deflate() at " + Arrays.toString(place), patch.deflate(), !fits ? NONE : type == 0 ? 1 : 0);
      due("level", patch.count(3), fits ? -1 : 0);
      due("count(0)", patch.count(0), fits ? 1 : 3);
      if (fits) {
        dueCorner("A", patch, 0, 0, type == 0 ? endOfN : endOfX);
        dueCorner("B", patch, 0, 1, type == 0 ? endOfX : endOfN);
        dueCorner("C", patch, 0, 2, third);
      } else {
        dueCorner("A stays", patch, 0, 0, place);
      }
      reached |= farthest(endOfX, endOfN, third) == LIMIT;
      passed |= farthest(endOfX, endOfN, third) == LIMIT + 1;
    }
    dueTrue("number " + i + " came to the limit", reached);
    dueTrue("number " + i + " went beyond the limit", passed);
  }

  private static void leftOutAnywhere() {
    Patch patch = new Patch();
    placeThree(patch, 1, at(0, 0, 0, 0), 0, true);
    patch.place(0, -900000, 900000, 0, 0, 0, true);
    due("deflate()", patch.deflate(), 1);
    due("one has come to be", patch.count(0), 1);
  }

  private static void leftOut() {
    for (int kind = 1; kind <= 2; kind++) {
      Patch one = seeded(kind);
      due("deflate() of one", one.deflate(), 1);
      due("none is left", one.count(0), 0);
    }
    Patch three = new Patch();
    placeThree(three, 1, at(0, 0, 0, 0), 0, true);
    due("deflate() of X, N and M of TYPE 1", three.deflate(), 0);
    due("one has come to be", three.count(2), 1);
    Patch other = new Patch();
    placeThree(other, 0, at(0, 0, 0, 0), 0, true);
    due("deflate() of X, N and M of TYPE 0: M is left out", other.deflate(), 1);
    due("one has come to be", other.count(1), 1);
    due("where they were is nothing else", other.count(0), 1);
  }

  private static void noNorM() {
    Patch noM = new Patch();
    noM.place(0, 0, 0, 0, 0, 0, true);
    noM.place(1, 1, 0, 0, 0, 5, true);
    due("deflate() without M", noM.deflate(), 2);
    Patch noN = new Patch();
    noN.place(0, 0, 0, 0, 0, 0, true);
    noN.place(1, 0, 0, 0, 0, 4, false);
    due("deflate() without N", noN.deflate(), 2);
    // A half of TYPE 0 at the edge AB is no N.
    Patch zeros = new Patch();
    zeros.place(0, 0, 0, 0, 0, 0, true);
    zeros.place(0, 0, 0, 0, 0, 0, false);
    zeros.place(0, 0, 0, 0, 0, 2, false);
    due("deflate() with another of TYPE 0 for N", zeros.deflate(), 3);
    due("none is left", zeros.count(0), 0);
    // One that has just X's A, or just X's C, is no M.
    Patch corner = new Patch();
    corner.place(0, 0, 0, 0, 0, 0, true);
    corner.place(1, 1, 0, 0, 0, 5, true);
    corner.place(0, 0, 0, 0, 0, 3, false);
    corner.place(0, 0, 0, 0, -2, 5, true);
    dueCorner("X's C is its C", corner, 3, 2, 0, 0, 0, -1);
    due("three at X", corner.count(0), 4);
    due("deflate() with one at A, one at C", corner.deflate(), 4);
  }

  /** A second N or M would lie on the first one, or on X: no run of calls can bring one. */
  private static void noSecondNorM() {
    for (int way = 0; way < 40; way++) {
      int type = way % 2;
      int k = way / 4;
      boolean left = way / 2 % 2 == 0;
      int side = left ? 1 : -1;
      long[] a = at(0, 0, 0, 0);
      Patch patch = new Patch();
      placeThree(patch, type, a, k, left);
      due("X, N and M", patch.count(0), 3);
      due("N again", patch.place(1, plus(a, E[k]), turned(k, 5), left), NONE);
      due("N on the side of X", patch.place(1, plus(a, E[k]), turned(k, 5), !left), NONE);
      for (int other = 0; other < 2; other++) {
        due("another M", patch.place(other, a, turned(k, side * (other == 0 ? 2 : 4)), !left), NONE);
        due("M on the side of X", patch.place(other, a, turned(k, side * (other == 0 ? 0 : -2)), left), NONE);
      }
      due("deflate()", patch.deflate(), 1 - type);
      due("one has come to be", patch.count(1 + type), 1);
    }
  }

  /** A half of TYPE 1 that is the M of an X and the N of another X, which has an M of TYPE 0 too. */
  private static final int SHARED_M_FIRST = 0;
  private static final int SHARED_N_FIRST = 1;

  private static Patch shared(int order) {
    Patch patch = new Patch();
    for (int part = 0; part < 2; part++) {
      if (part == order) {
        due("X", patch.place(0, 0, 0, 0, 0, 0, true), part == 0 ? 0 : 3);
        due("its N", patch.place(1, 1, 0, 0, 0, 5, true), part == 0 ? 1 : 4);
      } else {
        due("the other X", patch.place(0, 0, 0, 1, 0, 9, false), part == 0 ? 0 : 3);
        due("its M", patch.place(0, 0, 0, 1, 0, 7, true), part == 0 ? 1 : 4);
      }
      if (part == 0) {
        due("the shared one", patch.place(1, 0, 0, 0, 0, 4, false), 2);
      }
    }
    return patch;
  }

  private static void usedN() {
    Patch patch = shared(SHARED_M_FIRST);
    due("deflate()", patch.deflate(), 2);
    due("the X with a free M has come to be", patch.count(2), 1);
    due("the X with a used N has not", patch.count(1), 0);
  }

  private static void usedM() {
    Patch patch = shared(SHARED_N_FIRST);
    due("deflate()", patch.deflate(), 3);
    due("the X with a free N has come to be", patch.count(1), 1);
    due("the X with a used M has not", patch.count(2), 0);
  }

  private static void usedMOfTypeZero() {
    // Two halves of TYPE 0 that are M to each other, each with its N.
    Patch patch = new Patch();
    placeThree(patch, 0, at(0, 0, 0, 0), 0, true);
    due("the N of M", patch.place(1, 0, 1, 0, 0, 7, false), 3);
    due("deflate()", patch.deflate(), 0);
    due("both have come to be", patch.count(1), 2);
    due("clash()", patch.clash(), 0);
  }

  private static void orderOfX() {
    Patch patch = new Patch();
    patch.place(1, 101, 0, 0, 0, 5, true);
    patch.place(0, 100, 0, 0, 0, 2, false);
    patch.place(0, 0, 0, 0, 0, 0, true);
    patch.place(0, 100, 0, 0, 0, 0, true);
    patch.place(1, 1, 0, 0, 0, 5, true);
    patch.place(1, 0, 0, 0, 0, 4, false);
    due("deflate()", patch.deflate(), 1);
    due("the first", patch.corner(0, 0, 4), 1);
    due("the second", patch.corner(1, 0, 4), 0);
    dueCorner("the second", patch, 1, 2, byG(at(100, 0, 0, 0)));
  }

  private static void putFourHundredTogether() {
    Patch patch = new Patch();
    for (int n = 0; n < 100; n++) {
      placeThree(patch, 0, at(10 * n, 0, 0, 0), 0, true);
      patch.place(1, 10 * n, 1, 0, 0, 7, false);
    }
    due("400 halves", patch.count(0), 400);
    due("deflate()", patch.deflate(), 0);
    due("200 halves", patch.count(0), 200);
    due("of TYPE 0", patch.count(1), 200);
    dueCorner("the last", patch, 199, 2, byG(at(990, 0, 0, 0)));
    due("inflate()", patch.inflate(), 400);
    due("level", patch.count(3), 0);
  }

  private static void levelBelowZero() {
    Patch patch = new Patch();
    for (int level = -1; level >= -100; level--) {
      patch.place(0, 0, 0, 0, 0, 0, true);
      due("deflate() of one", patch.deflate(), 1);
      due("level", patch.count(3), level);
    }
    due("inflate()", patch.inflate(), 0);
    due("level", patch.count(3), -99);
  }

  // Promises 7 to 9.

  private static void asking() {
    run("clash: no two", BoundaryTest::noClash);
    run("clash: the least one that clashes with an earlier one", BoundaryTest::leastClash);
    run("clash: among many", BoundaryTest::clashAmongMany);
    run("count: an empty patch", BoundaryTest::countNothing);
    run("count: every what", BoundaryTest::countAll);
    run("count: a full patch", BoundaryTest::countFull);
    run("count: another what", BoundaryTest::countOther);
    run("count: edges along each other", BoundaryTest::countAlongEachOther);
    run("corner: every number", BoundaryTest::everyCorner);
    run("corner: none such", BoundaryTest::noSuchCorner);
    run("star: one half, and a full one", BoundaryTest::stars);
    run("star: not all of the way round", BoundaryTest::starWithGap);
    run("star: two of them clash", BoundaryTest::clashingStar);
    run("star: none such", BoundaryTest::noSuchStar);
  }

  private static void noClash() {
    due("an empty patch", new Patch().clash(), 0);
    for (int kind = 0; kind < 4; kind++) {
      due("seed(" + kind + ")", seeded(kind).clash(), 0);
    }
    due("400 halves", scattered(200, 200).clash(), 0);
    Patch sun = seeded(0);
    for (int i = 0; i < 4; i++) {
      sun.inflate();
      due("the sun divided", sun.clash(), 0);
    }
  }

  private static void leastClash() {
    Patch two = clashingPatch();
    due("two that clash: the second", two.clash(), 2);
    // Those that come to be are, by X: 0 and 3 clash, and 1 and 2.
    Patch patch = new Patch();
    placeSixth(patch, X, 0);
    placeSixth(patch, X, 100);
    placeSixth(patch, OTHER_X, 100);
    placeSixth(patch, OTHER_X, 0);
    for (int which : new int[] {1, 2, 3, 5}) {
      placeSixth(patch, which, 0);
      placeSixth(patch, which, 100);
    }
    due("twelve halves", patch.count(0), 12);
    due("deflate()", patch.deflate(), 2);
    due("four halves", patch.count(0), 4);
    due("the third one is the least", patch.clash(), 3);
    Patch without = patch.copy();
    without.remove(2);
    due("then the one that was the fourth", without.clash(), 3);
    without.remove(0);
    due("then none", without.clash(), 0);
    patch.remove(0);
    due("all come up", patch.clash(), 2);
    patch.remove(0);
    due("then none", patch.clash(), 0);
  }

  private static void clashAmongMany() {
    Patch patch = seeded(0);
    for (int i = 0; i < 4; i++) {
      patch.inflate();
    }
    for (int which = 0; which < 6; which++) {
      placeSixth(patch, which, 500);
    }
    due("346 halves", patch.count(0), 346);
    due("no two clash", patch.clash(), 0);
    due("deflate()", patch.deflate(), 1);
    int size = patch.count(0);
    due("132 halves", size, 132);
    due("the last one clashes", patch.clash(), 132);
    for (int n = size; n < 400; n++) {
      due("place number " + n, patch.place(0, 5000 + 3 * n, 0, 0, 0, 0, true), n);
    }
    due("it is still the least one", patch.clash(), 132);
    patch.remove(130);
    due("without the one it clashed with", patch.clash(), 0);
  }

  private static void countNothing() {
    Patch patch = seeded(1);
    patch.remove(0);
    patch.inflate();
    for (int what = 0; what < 7; what++) {
      due("count(" + what + ")", patch.count(what), what == 3 ? 1 : 0);
    }
  }

  private static void countAll() {
    int[][] wants = {{10, 10, 0, 0, 10, 11, 0}, {1, 1, 0, 0, 3, 3, 0}, {1, 0, 1, 0, 3, 3, 0}};
    for (int kind = 0; kind < 3; kind++) {
      for (int what = 0; what < 7; what++) {
        due("seed(" + kind + "), count(" + what + ")", seeded(kind).count(what), wants[kind][what]);
      }
    }
    Patch zeros = seeded(1);
    due("the other half of the whole tile", zeros.place(0, 1, 0, 0, -1, 6, false), 1);
    int[] whole = {2, 2, 0, 0, 4, 4, 2};
    for (int what = 0; what < 7; what++) {
      due("a whole tile: count(" + what + ")", zeros.count(what), whole[what]);
    }
    zeros.place(0, 0, 0, 0, 0, 0, false);
    due("one that shares AB is no other half", zeros.count(6), 2);
    due("its edges", zeros.count(4), 5);
    due("its points", zeros.count(5), 5);
  }

  private static void countFull() {
    Patch patch = scattered(200, 200);
    int[] wants = {400, 200, 200, 0, 1200, 1200, 0};
    for (int what = 0; what < 7; what++) {
      due("count(" + what + ")", patch.count(what), wants[what]);
    }
    Patch tiles = new Patch();
    for (int n = 0; n < 200; n++) {
      tiles.place(0, 5 * n, 0, 0, 0, 0, true);
      tiles.place(0, 5 * n + 1, 0, 0, -1, 6, false);
    }
    int[] all = {400, 400, 0, 0, 800, 800, 400};
    for (int what = 0; what < 7; what++) {
      due("200 whole tiles: count(" + what + ")", tiles.count(what), all[what]);
    }
  }

  private static void countOther() {
    for (int what : new int[] {-1, 7, 8, MIN, MAX}) {
      due("count(" + what + ")", seeded(0).count(what), NONE);
      due("count(" + what + ") of nothing", new Patch().count(what), NONE);
    }
  }

  private static void countAlongEachOther() {
    Patch patch = clashingPatch();
    due("pieces with different ends are different edges", patch.count(4), 6);
    due("points", patch.count(5), 5);
  }

  private static void everyCorner() {
    Patch patch = new Patch();
    patch.place(1, -LIMIT, LIMIT, 6, -7, 0, false);
    patch.place(0, 11, 12, 13, 14, 6, false);
    dueCorner("A", patch, 0, 0, -LIMIT, LIMIT, 6, -7);
    dueCorner("B", patch, 0, 1, -LIMIT + 1, LIMIT, 6, -7);
    dueCorner("C", patch, 0, 2, -LIMIT, LIMIT - 1, 6, -7);
    dueCorner("the other's A", patch, 1, 0, 11, 12, 13, 14);
    dueCorner("the other's B", patch, 1, 1, 11, 12, 13, 15);
    dueCorner("the other's C", patch, 1, 2, 10, 12, 13, 14);
    for (int corner = 0; corner < 3; corner++) {
      due("type", patch.corner(0, corner, 4), 1);
      due("the other's type", patch.corner(1, corner, 4), 0);
    }
  }

  private static void noSuchCorner() {
    Patch patch = seeded(0);
    for (int n : new int[] {-1, 10, 400, MIN, MAX}) {
      for (int i = 0; i <= 4; i++) {
        due("corner(" + n + ", 0, " + i + ")", patch.corner(n, 0, i), NO_NUMBER);
      }
    }
    for (int corner : new int[] {-1, 3, MIN, MAX}) {
      for (int i = 0; i <= 4; i++) {
        due("corner(0, " + corner + ", " + i + ")", patch.corner(0, corner, i), NO_NUMBER);
      }
    }
    for (int i : new int[] {-1, 5, MIN, MAX}) {
      for (int corner = 0; corner < 3; corner++) {
        due("corner(9, " + corner + ", " + i + ")", patch.corner(9, corner, i), NO_NUMBER);
      }
    }
    patch.remove(9);
    due("the last one has gone", patch.corner(9, 0, 0), NO_NUMBER);
    due("the one before has not", patch.corner(8, 0, 0), 0);
    due("nothing at all", new Patch().corner(0, 0, 4), NO_NUMBER);
    due("400 halves: the last", scattered(399, 1).corner(399, 0, 4), 1);
    due("400 halves: none behind it", scattered(399, 1).corner(400, 0, 4), NO_NUMBER);
  }

  // Promise 10.

  private static void stars() {
    int[][] angles = {{1, 2, 2}, {3, 1, 1}};
    for (int type = 0; type < 2; type++) {
      for (int corner = 0; corner < 3; corner++) {
        Patch one = seeded(type + 1);
        due("one half: star(0, " + corner + ", 0)", one.star(0, corner, 0), 1);
        due("one half: star(0, " + corner + ", 1)", one.star(0, corner, 1), angles[type][corner]);
        due("one half: star(0, " + corner + ", 2)", one.star(0, corner, 2), 0);
      }
    }
    Patch sun = seeded(0);
    for (int n = 0; n < 10; n++) {
      int[] wants = {10, 10, 1};
      int[] rim = {2, 4, 0};
      for (int what = 0; what < 3; what++) {
        due("sun", sun.star(n, 0, what), wants[what]);
        due("its rim", sun.star(n, 1, what), rim[what]);
        due("its rim", sun.star(n, 2, what), rim[what]);
      }
    }
  }

  private static void starWithGap() {
    for (int gone = 0; gone < 10; gone++) {
      Patch sun = seeded(0);
      sun.remove(gone);
      due("nine: halves", sun.star(4, 0, 0), 9);
      due("nine: angles", sun.star(4, 0, 1), 9);
      due("nine: not all of the way round", sun.star(4, 0, 2), 0);
    }
    // A half whose edge goes through the corner does not have it as a corner.
    Patch through = seeded(1);
    due("a corner at the middle of its edge", through.place(0, -1, 0, -1, -1, 7, true), 1);
    due("halves", through.star(1, 0, 0), 1);
    due("angles", through.star(1, 0, 1), 1);
    due("not all of the way round", through.star(1, 0, 2), 0);
  }

  private static void clashingStar() {
    Patch patch = clashingPatch();
    // Eight more round E(9) fill the way round, but the first two clash.
    int[] ways = {5, 7, 7, 9, 9, 1, 1, 3};
    for (int i = 0; i < 8; i++) {
      due("half round E(9)", patch.place(0, 0, 0, -1, 0, ways[i], i % 2 == 0), 2 + i);
    }
    due("halves", patch.star(0, 1, 0), 10);
    due("angles", patch.star(0, 1, 1), 10);
    due("all of the way round, but two clash", patch.star(0, 1, 2), 0);
    due("the same by another of its halves", patch.star(9, 0, 2), 0);
    dueTrue("remove(0)", patch.remove(0));
    due("with a gap", patch.star(8, 0, 2), 0);
    due("another in its place", patch.place(0, 0, 0, -1, 0, 3, true), 9);
    due("no two clash", patch.star(9, 0, 2), 1);
    // A clash elsewhere in the patch is none in the star.
    Patch apart = seeded(0);
    apart.inflate();
    apart.inflate();
    for (int which = 0; which < 6; which++) {
      placeSixth(apart, which, 100);
    }
    due("deflate()", apart.deflate(), 1);
    dueTrue("two clash", apart.clash() > 0);
    due("not those round 0", apart.star(apart.inside(0, 0, 0, 0), cornerAtZero(apart), 2), 1);
  }

  private static int cornerAtZero(Patch patch) {
    int n = patch.inside(0, 0, 0, 0);
    for (int corner = 0; corner < 3; corner++) {
      int others = 0;
      for (int i = 0; i < 4; i++) {
        others += Math.abs(patch.corner(n, corner, i));
      }
      if (others == 0) {
        return corner;
      }
    }
    return NONE;
  }

  private static void noSuchStar() {
    Patch patch = seeded(0);
    for (int what = 0; what < 3; what++) {
      for (int n : new int[] {-1, 10, 400, MIN, MAX}) {
        due("star(" + n + ", 0, " + what + ")", patch.star(n, 0, what), NONE);
      }
      for (int corner : new int[] {-1, 3, MIN, MAX}) {
        due("star(0, " + corner + ", " + what + ")", patch.star(0, corner, what), NONE);
      }
      due("of nothing", new Patch().star(0, 0, what), NONE);
    }
    for (int what : new int[] {-1, 3, MIN, MAX}) {
      due("star(9, 0, " + what + ")", patch.star(9, 0, what), NONE);
    }
    patch.remove(9);
    due("the last one has gone", patch.star(9, 0, 0), NONE);
  }

  // Promises 11 and 12.

  private static void measuring() {
    run("inside: the least half, its edges too", BoundaryTest::insideEdges);
    run("inside: a hair's breadth on either side of an edge", BoundaryTest::insideByAHair);
    run("inside: there is none", BoundaryTest::insideNone);
    run("inside: a number beyond 1000000", BoundaryTest::insideTooFar);
    run("steps: lengths 1 and 10000000", BoundaryTest::shortestAndLongest);
    run("steps: lengths beyond them", BoundaryTest::otherLengths);
    run("steps: halves upwards", BoundaryTest::halvesUpwards);
    run("steps: nearly a half", BoundaryTest::nearlyAHalf);
    run("steps: none such", BoundaryTest::noSuchSteps);
  }

  private static void insideEdges() {
    Patch sun = seeded(0);
    due("the corner of all", sun.inside(0, 0, 0, 0), 0);
    for (int k = 0; k < 10; k++) {
      int least = k == 0 ? 0 : k - 1;
      due("E(" + k + "), the corner of two", sun.inside(E[k][0], E[k][1], E[k][2], E[k][3]), least);
      long[] middle = byG(at(E[k][0], E[k][1], E[k][2], E[k][3]));
      due("on the edge of two", sun.inside(middle), least);
      // The point of BC that is 1 / G of it from B.
      long[] rim = cut(plus(new long[4], E[k]), plus(new long[4], E[(k + 1) % 10]));
      due("on BC", sun.inside(rim), k);
    }
    sun.remove(0);
    due("on the edge, without the least", sun.inside(1, 0, 0, 0), 8);
  }

  private static void insideByAHair() {
    Patch patch = seeded(1);
    for (int power = 1; power <= 28; power++) {
      long[] p = near(power);
      due("on AB, near A", patch.inside(p), 0);
      due("on its line, before A", patch.inside(negative(p)), NONE);
      due("on AB, near B", patch.inside(plus(negative(p), E[0])), 0);
      due("on its line, beyond B", patch.inside(plus(p, E[0])), NONE);
      // Times Z: 72 degrees on, so out of the half at A; from 1 / G on that way, C is the last point in it.
      long[] turned = at(-p[3], p[0] - p[3], p[1] - p[3], p[2] - p[3]);
      due("beside A", patch.inside(turned), NONE);
      due("above the middle of AB", patch.inside(cutPlus(turned)), 0);
      due("below the middle of AB", patch.inside(cutPlus(negative(turned))), NONE);
    }
  }

  /** The point 1 / G, and a small way from there. */
  private static long[] cutPlus(long[] small) {
    return at(small[0] - 1, small[1], small[2] - 1, small[3] - 1);
  }

  private static void insideNone() {
    due("of nothing", new Patch().inside(0, 0, 0, 0), NONE);
    due("outside", seeded(0).inside(2, 0, 0, 0), NONE);
    Patch sun = seeded(0);
    sun.remove(3);
    long[] middle = byG(byG(at(1, 1, 2, 1)));
    due("where one has gone", sun.inside(middle), NONE);
    due("before it had gone", seeded(0).inside(middle), 3);
  }

  private static void insideTooFar() {
    // A at 1000000, B one to the left of it: the point 1 / G from A has the numbers 1000001, 0, 1, 1.
    Patch patch = new Patch();
    due("place", patch.place(0, LIMIT, 0, 0, 0, 5, true), 0);
    due("A", patch.inside(LIMIT, 0, 0, 0), 0);
    due("on AB, with a number beyond the limit", patch.inside(LIMIT + 1, 0, 1, 1), NONE);
    due("on AB, with numbers within", patch.inside(LIMIT - 2, 0, -1, -1), 0);
    for (int i = 0; i < 4; i++) {
      for (int far : new int[] {LIMIT + 1, -LIMIT - 1, MAX, MIN}) {
        int[] p = new int[4];
        p[i] = far;
        due("inside" + Arrays.toString(p), patch.inside(p[0], p[1], p[2], p[3]), NONE);
        due("inside" + Arrays.toString(p), seeded(0).inside(p[0], p[1], p[2], p[3]), NONE);
      }
    }
    due("all at the limit", patch.inside(LIMIT, LIMIT, LIMIT, LIMIT), NONE);
    due("all at the other limit", patch.inside(-LIMIT, -LIMIT, -LIMIT, -LIMIT), NONE);
    Patch far = new Patch();
    due("place", far.place(1, LIMIT, -LIMIT, LIMIT - 1, LIMIT, 4, false), 0);
    due("its A", far.inside(LIMIT, -LIMIT, LIMIT - 1, LIMIT), 0);
    due("its B", far.inside(LIMIT, -LIMIT, LIMIT, LIMIT), 0);
    due("not by the other", far.inside(LIMIT, LIMIT, LIMIT, LIMIT), NONE);
  }

  private static void shortestAndLongest() {
    Patch sun = seeded(0);
    // cos 36 k and sin 36 k, in one step and in ten million.
    long[] rightInOne = {1, 1, 0, 0, -1, -1, -1, 0, 0, 1};
    long[] upInOne = {0, 1, 1, 1, 1, 0, -1, -1, -1, -1};
    long[] right = {10000000, 8090170, 3090170, -3090170, -8090170, -10000000, -8090170, -3090170, 3090170, 8090170};
    long[] up = {0, 5877853, 9510565, 9510565, 5877853, 0, -5877853, -9510565, -9510565, -5877853};
    for (int k = 0; k < 10; k++) {
      int corner = 1 + k % 2;
      due("E(" + k + ") right, length 1", sun.steps(k, corner, 0, 1), rightInOne[k]);
      due("E(" + k + ") up, length 1", sun.steps(k, corner, 1, 1), upInOne[k]);
      due("E(" + k + ") right, length 10000000", sun.steps(k, corner, 0, 10000000), right[k]);
      due("E(" + k + ") up, length 10000000", sun.steps(k, corner, 1, 10000000), up[k]);
    }
    // 10^13 (1 + cos 72 + 2 cos 36), and 10^13 (sin 72 + 2 sin 36).
    Patch far = new Patch();
    due("place", far.place(0, LIMIT, LIMIT, -LIMIT, -LIMIT, 4, true), 0);
    due("the farthest to the right", far.steps(0, 0, 0, 10000000), 29270509831248L);
    due("in one", far.steps(0, 0, 0, 1), 2927051);
    far.seed(3);
    due("place", far.place(0, -LIMIT, -LIMIT, LIMIT, LIMIT, 9, true), 0);
    due("the farthest to the left", far.steps(0, 0, 0, 10000000), -29270509831248L);
    far.seed(3);
    due("place", far.place(0, 0, LIMIT, LIMIT, -LIMIT, 0, false), 0);
    due("the farthest up", far.steps(0, 0, 1, 10000000), 21266270208801L);
    far.seed(3);
    due("place", far.place(0, 0, -LIMIT, -LIMIT, LIMIT, 2, false), 0);
    due("the farthest down", far.steps(0, 0, 1, 10000000), -21266270208801L);
  }

  private static void otherLengths() {
    Patch patch = new Patch();
    patch.place(0, 700, 800, 0, 0, 0, true);
    for (int axis = 0; axis < 2; axis++) {
      for (int length : new int[] {0, -1, -10000000, 10000001, MIN, MAX}) {
        due("steps(0, 0, " + axis + ", " + length + ")", patch.steps(0, 0, axis, length), 0);
      }
      dueTrue("length 1", patch.steps(0, 0, axis, 1) > 700);
      dueTrue("length 10000000", patch.steps(0, 0, axis, 10000000) > 7000000000L);
    }
  }

  private static void halvesUpwards() {
    // Z lies at (G - 1) / 2 and Z^2 at - G / 2, so a + Z + Z^2 at a - 1 / 2.
    int[][] asks = {{0, 1, 0}, {1, 1, 1}, {2, 1, 2}, {-1, 1, -1}, {0, 3, -1}, {1, 3, 2}, {0, 2, -1}, {1, 2, 1},
        {0, 9999999, -4999999}, {1, 9999999, 5000000}, {0, 10000000, -5000000}};
    for (int[] ask : asks) {
      Patch patch = new Patch();
      patch.place(0, ask[0], 1, 1, 0, 0, true);
      due("a = " + ask[0] + ", length " + ask[1], patch.steps(0, 0, 0, ask[1]), ask[2]);
    }
    // -999999.5 and 999999.5 times 9999999, which is odd.
    Patch left = new Patch();
    left.place(0, -999999, 1, 1, 0, 0, true);
    due("far to the left", left.steps(0, 0, 0, 9999999), -9999994000000L);
    Patch right = new Patch();
    right.place(0, LIMIT, 1, 1, 0, 4, true);
    due("far to the right", right.steps(0, 0, 0, 9999999), 9999994000001L);
  }

  private static void nearlyAHalf() {
    // 1691591 * 915120 is F(60), and twice the place is F(60) G = F(61) - 0.0000000000003.
    Patch below = new Patch();
    below.place(0, 0, 0, -LIMIT, -691591, 0, true);
    due("a hair below a half", below.steps(0, 0, 0, 915120), 1252365390980L);
    Patch above = new Patch();
    above.place(0, 0, 0, 999999, 691592, 0, true);
    due("a hair above a half", above.steps(0, 0, 0, 915120), -1252365390980L);
  }

  private static void noSuchSteps() {
    Patch patch = new Patch();
    patch.place(0, 700, 800, 0, 0, 0, true);
    for (int axis = 0; axis < 2; axis++) {
      for (int n : new int[] {-1, 1, 400, MIN, MAX}) {
        due("steps(" + n + ", 0, " + axis + ", 10)", patch.steps(n, 0, axis, 10), 0);
      }
      for (int corner : new int[] {-1, 3, MIN, MAX}) {
        due("steps(0, " + corner + ", " + axis + ", 10)", patch.steps(0, corner, axis, 10), 0);
      }
      due("of nothing", new Patch().steps(0, 0, axis, 10), 0);
    }
    for (int axis : new int[] {-1, 2, MIN, MAX}) {
      due("steps(0, 0, " + axis + ", 10)", patch.steps(0, 0, axis, 10), 0);
    }
    dueTrue("as it should be", patch.steps(0, 2, 0, 10) != 0 && patch.steps(0, 2, 1, 10) != 0);
    patch.remove(0);
    due("it has gone", patch.steps(0, 0, 0, 10), 0);
  }
}
