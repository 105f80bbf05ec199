import java.lang.reflect.Modifier;
import java.util.Arrays;
import java.util.Set;
import java.util.TreeSet;

/** Each promise of the document, with answers worked out by hand. */
public final class PromiseTest {
  private static final int NONE = -1;
  private static final int NO_NUMBER = -2000000;
  private static final int MIN = Integer.MIN_VALUE;
  private static final int MAX = Integer.MAX_VALUE;

  private static int wrong = 0;

  public static void main(String[] args) {
    face();
    newObject();
    seed();
    place();
    placeClashes();
    placeLimits();
    remove();
    inflate();
    inflateLimits();
    deflate();
    deflateOrder();
    deflateLimits();
    clash();
    count();
    corner();
    star();
    inside();
    insideNearEdges();
    stepsOrdinary();
    stepsHalves();
    stepsWrong();
    System.out.println(wrong == 0 ? "all answers are as due" : wrong + " answers are not as due");
    if (wrong != 0) {
      System.exit(1);
    }
  }

  private static void due(String call, long got, long want) {
    if (got != want) {
      wrong++;
      System.out.println(call + " answered " + got + ", due is " + want);
    }
  }

  private static void dueTrue(String call, boolean got) {
    due(call, got ? 1 : 0, 1);
  }

  private static void dueFalse(String call, boolean got) {
    due(call, got ? 1 : 0, 0);
  }

  private static void dueCorner(String when, FloorShop x, int n, int corner, int... want) {
    for (int i = 0; i < 4; i++) {
      due(when + ": corner(" + n + ", " + corner + ", " + i + ")", x.corner(n, corner, i), want[i]);
    }
  }

  /** All that can be asked of a patch, as one text: for calls that change nothing. */
  private static String state(FloorShop x) {
    StringBuilder text = new StringBuilder();
    for (int what = 0; what < 7; what++) {
      text.append(x.count(what)).append(' ');
    }
    for (int n = 0; n < x.count(0); n++) {
      for (int corner = 0; corner < 3; corner++) {
        for (int i = 0; i < 5; i++) {
          text.append(x.corner(n, corner, i)).append(' ');
        }
      }
    }
    return text.append(x.clash()).append(' ').append(x.inside(0, 0, 0, 0)).toString();
  }

  private static void dueSame(String call, String before, FloorShop x) {
    dueTrue(call + " changes nothing", before.equals(state(x)));
  }

  /** Two halves whose edges BC and AC lie along each other, with different ends. */
  private static FloorShop clashingPatch() {
    FloorShop x = new FloorShop();
    due("X", x.place(0, 0, 0, 0, 0, 0, true), 0);
    due("its N", x.place(1, 1, 0, 0, 0, 5, true), 1);
    due("its M", x.place(1, 0, 0, 0, 0, 4, false), 2);
    due("the other N", x.place(1, -1, -1, -1, -1, 3, false), 3);
    due("the other X", x.place(0, 0, 0, 0, 0, 8, false), 4);
    due("its M of TYPE 0", x.place(0, 0, 0, 0, 0, 6, true), 5);
    due("clash() by hand", x.clash(), 0);
    due("deflate() to a clash", x.deflate(), 1);
    return x;
  }

  private static void face() {
    Set<String> names = new TreeSet<>();
    for (var method : FloorShop.class.getDeclaredMethods()) {
      if (!Modifier.isPrivate(method.getModifiers())) {
        names.add(method.getReturnType() + " " + method.getName() + Arrays.toString(method.getParameterTypes()));
      }
    }
    Set<String> wanted = new TreeSet<>(Set.of(
        "int seed[int]", "int place[int, int, int, int, int, int, boolean]", "boolean remove[int]", "int inflate[]",
        "int deflate[]", "int clash[]", "int count[int]", "int corner[int, int, int]", "int star[int, int, int]"));
    wanted.addAll(Set.of("int inside[int, int, int, int]", "long steps[int, int, int, int]"));
    dueTrue("the methods of the face are " + names, names.equals(wanted));
    for (var field : FloorShop.class.getDeclaredFields()) {
      dueTrue("field " + field.getName() + " is private, or NONE",
          Modifier.isPrivate(field.getModifiers()) || field.getName().equals("NONE"));
    }
    dueTrue("the class is public and final", Modifier.isPublic(FloorShop.class.getModifiers())
        && Modifier.isFinal(FloorShop.class.getModifiers()) && FloorShop.class.getDeclaredConstructors().length == 1);
    due("NONE", FloorShop.NONE, NONE);
  }

  private static void newObject() {
    FloorShop x = new FloorShop();
    for (int what = 0; what < 7; what++) {
      due("new: count(" + what + ")", x.count(what), 0);
    }
    due("new: clash()", x.clash(), 0);
    due("new: inside", x.inside(0, 0, 0, 0), NONE);
    due("new: corner", x.corner(0, 0, 0), NO_NUMBER);
    due("new: star", x.star(0, 0, 0), NONE);
    due("new: steps", x.steps(0, 0, 0, 1), 0);
    dueFalse("new: remove", x.remove(0));
    due("new: deflate", x.deflate(), NONE);
    due("new: level after a deflate that is refused", x.count(3), 0);
    FloorShop y = new FloorShop();
    x.seed(0);
    due("another object stays empty", y.count(0), 0);
  }

  private static void seed() {
    FloorShop x = new FloorShop();
    due("seed(0)", x.seed(0), 10);
    int[][] units = {{1, 0, 0, 0}, {0, 0, 0, -1}, {0, 1, 0, 0}, {1, 1, 1, 1}, {0, 0, 1, 0},
        {-1, 0, 0, 0}, {0, 0, 0, 1}, {0, -1, 0, 0}, {-1, -1, -1, -1}, {0, 0, -1, 0}};
    for (int k = 0; k < 10; k++) {
      dueCorner("sun", x, k, 0, 0, 0, 0, 0);
      dueCorner("sun", x, k, 1 + k % 2, units[k]);
      dueCorner("sun", x, k, 2 - k % 2, units[(k + 1) % 10]);
      due("sun: type", x.corner(k, 0, 4), 0);
    }
    x.inflate();
    due("seed(1)", x.seed(1), 1);
    due("seed(1): level", x.count(3), 0);
    dueCorner("seed(1)", x, 0, 0, 0, 0, 0, 0);
    dueCorner("seed(1)", x, 0, 1, 1, 0, 0, 0);
    dueCorner("seed(1)", x, 0, 2, 0, 0, 0, -1);
    due("seed(1): type", x.corner(0, 0, 4), 0);
    due("seed(1): count(0)", x.count(0), 1);
    due("seed(2)", x.seed(2), 1);
    dueCorner("seed(2)", x, 0, 0, 0, 0, 0, 0);
    dueCorner("seed(2)", x, 0, 1, 1, 0, 0, 0);
    dueCorner("seed(2)", x, 0, 2, 1, 1, 1, 1);
    due("seed(2): type", x.corner(0, 0, 4), 1);
    x.inflate();
    String before = state(x);
    for (int kind : new int[] {-1, 4, 5, MIN, MAX}) {
      due("seed(" + kind + ")", x.seed(kind), NONE);
      dueSame("seed(" + kind + ")", before, x);
    }
    due("seed(3)", x.seed(3), 0);
    due("seed(3): count(0)", x.count(0), 0);
    due("seed(3): level", x.count(3), 0);
    due("seed(3): inside", x.inside(0, 0, 0, 0), NONE);
  }

  private static void place() {
    FloorShop x = new FloorShop();
    due("place to the left", x.place(0, 10, 20, 30, 40, 2, true), 0);
    dueCorner("left", x, 0, 0, 10, 20, 30, 40);
    dueCorner("left", x, 0, 1, 10, 21, 30, 40);
    dueCorner("left", x, 0, 2, 11, 21, 31, 41);
    due("place to the right", x.place(0, -10, 0, 0, 0, 2, false), 1);
    dueCorner("right", x, 1, 1, -10, 1, 0, 0);
    dueCorner("right", x, 1, 2, -10, 0, 0, -1);
    due("place TYPE 1 to the left", x.place(1, -20, 0, 0, 0, 8, true), 2);
    dueCorner("TYPE 1 left", x, 2, 1, -21, -1, -1, -1);
    dueCorner("TYPE 1 left", x, 2, 2, -20, 0, 0, -1);
    due("place TYPE 1 to the right", x.place(1, -30, 0, 0, 0, 2, false), 3);
    dueCorner("TYPE 1 right", x, 3, 1, -30, 1, 0, 0);
    dueCorner("TYPE 1 right", x, 3, 2, -30, 0, -1, 0);
    due("TYPE 1 right: type", x.corner(3, 0, 4), 1);
    due("the left-hand C of k 9 is at E(0)", x.place(0, 0, 50, 0, 0, 9, true), 4);
    dueCorner("k 9", x, 4, 2, 1, 50, 0, 0);
    due("place keeps the level", x.count(3), 0);
    String before = state(x);
    due("type 2", x.place(2, 90, 0, 0, 0, 0, true), NONE);
    due("type -1", x.place(-1, 90, 0, 0, 0, 0, true), NONE);
    due("type MAX", x.place(MAX, 90, 0, 0, 0, 0, true), NONE);
    due("k 10", x.place(0, 90, 0, 0, 0, 10, true), NONE);
    due("k -1", x.place(0, 90, 0, 0, 0, -1, true), NONE);
    due("k MIN", x.place(0, 90, 0, 0, 0, MIN, false), NONE);
    due("k MAX", x.place(0, 90, 0, 0, 0, MAX, false), NONE);
    dueSame("place that is refused", before, x);
  }

  private static void placeClashes() {
    FloorShop x = new FloorShop();
    x.seed(1);
    String before = state(x);
    due("the same half again", x.place(0, 0, 0, 0, 0, 0, true), NONE);
    due("edge AB at AC", x.place(0, 0, 0, 0, 0, 1, true), NONE);
    due("edge AB against its direction", x.place(0, 1, 0, 0, 0, 5, true), NONE);
    due("AB of TYPE 1 against its direction", x.place(1, 0, 0, 0, 0, 0, false), NONE);
    due("AC of TYPE 1 at AB", x.place(1, 0, 0, 0, 0, 7, true), NONE);
    // TYPE 1 with A at E(0) and C at 0 - E(5): its AC runs through half of the edge AB.
    due("a piece of AB", x.place(1, 0, 0, -1, -1, 8, false), NONE);
    dueSame("place that clashes", before, x);
    due("AB of TYPE 1 from B to A", x.place(1, 1, 0, 0, 0, 5, true), 1);
    due("AC at AC", x.place(1, 0, 0, 0, 0, 4, false), 2);
    due("just a corner in common", x.place(0, 0, 0, 0, 0, 6, true), 3);
    // 1 / G to the power of 26 is some 4 millionths.
    FloorShop y = new FloorShop();
    y.seed(1);
    int[] tiny = smallPoint(26);
    due("a hair to one side", y.place(0, tiny[0], tiny[1], tiny[2], tiny[3], 0, false), NONE);
    due("a hair to the other", y.place(0, -tiny[0], -tiny[1], -tiny[2], -tiny[3], 0, false), NONE);
    due("a hair behind a corner", y.place(0, -tiny[0], -tiny[1], -tiny[2], -tiny[3], 4, true), 1);
    due("a hair before it", y.place(0, tiny[0], tiny[1], tiny[2], tiny[3], 5, true), NONE);
  }

  /** 1 / G to a power. */
  private static int[] smallPoint(int power) {
    int[] p = {1, 0, 0, 0};
    for (int i = 0; i < power; i++) {
      p = new int[] {p[1] - p[3] - p[0], p[2] - p[3], p[1] - p[0], p[2] - p[0] - p[3]};
    }
    return p;
  }

  private static void placeLimits() {
    FloorShop x = new FloorShop();
    for (int i = 0; i < 4; i++) {
      for (int far : new int[] {1000001, -1000001, MAX, MIN}) {
        int[] p = new int[4];
        p[i] = far;
        due("place at " + far, x.place(0, p[0], p[1], p[2], p[3], 0, true), NONE);
      }
    }
    due("B would be too far", x.place(0, 1000000, 0, 0, 0, 0, true), NONE);
    due("C would be too far", x.place(0, 0, 0, 0, -1000000, 0, true), NONE);
    due("B too far down", x.place(0, -1000000, 0, 0, 0, 5, true), NONE);
    due("all at the limit", x.place(0, 1000000, -1000000, 999999, 1000000, 4, false), NONE);
    due("just within", x.place(0, 1000000, -1000000, 999999, 1000000, 4, true), 0);
    dueCorner("just within", x, 0, 1, 1000000, -1000000, 1000000, 1000000);
    dueCorner("just within", x, 0, 2, 999999, -1000000, 999999, 1000000);
    due("count", x.count(0), 1);
    FloorShop y = new FloorShop();
    for (int n = 0; n < 400; n++) {
      due("place number " + n, y.place(n % 2, 3 * n, 0, 0, 0, n % 10, n % 3 == 0), n);
    }
    String before = state(y);
    due("the 401st", y.place(0, 5000, 0, 0, 0, 0, true), NONE);
    dueSame("the 401st", before, y);
    dueTrue("remove", y.remove(17));
    due("the 400th again", y.place(0, 5000, 0, 0, 0, 0, true), 399);
    due("the 401st again", y.place(0, 6000, 0, 0, 0, 0, true), NONE);
    dueTrue("remove(399)", y.remove(399));
    due("399 are left", y.count(0), 399);
    dueFalse("remove(399) again", y.remove(399));
  }

  private static void remove() {
    FloorShop x = new FloorShop();
    x.seed(0);
    String before = state(x);
    for (int n : new int[] {-1, 10, MIN, MAX}) {
      dueFalse("remove(" + n + ")", x.remove(n));
      dueSame("remove(" + n + ")", before, x);
    }
    dueTrue("remove(3)", x.remove(3));
    due("count(0)", x.count(0), 9);
    dueCorner("those behind come up", x, 3, 1, 0, 0, 1, 0);
    dueCorner("those before stay", x, 2, 1, 0, 1, 0, 0);
    due("where it was", x.inside(2, 0, 2, 1), NONE);
    dueTrue("remove(8), the last", x.remove(8));
    dueTrue("remove(0)", x.remove(0));
    dueCorner("all come up", x, 0, 2, 0, 0, 0, -1);
    due("inside what has come up", x.inside(0, 0, 1, 0), 2);
    due("it can be placed again", x.place(0, 0, 0, 0, 0, 0, true), 7);
    for (int n = 7; n >= 0; n--) {
      dueTrue("remove(" + n + ")", x.remove(n));
    }
    dueFalse("remove of none", x.remove(0));
    due("none is left", x.count(0), 0);
  }

  private static void inflate() {
    FloorShop x = new FloorShop();
    x.seed(1);
    due("inflate()", x.inflate(), 2);
    // A, B, C become 0, G, G E(1); P is 1.
    due("first", x.corner(0, 0, 4), 0);
    dueCorner("C", x, 0, 0, 1, 1, 0, 0);
    dueCorner("P", x, 0, 1, 1, 0, 0, 0);
    dueCorner("B", x, 0, 2, 0, 0, -1, -1);
    due("second", x.corner(1, 0, 4), 1);
    dueCorner("P", x, 1, 0, 1, 0, 0, 0);
    dueCorner("C", x, 1, 1, 1, 1, 0, 0);
    dueCorner("A", x, 1, 2, 0, 0, 0, 0);
    due("level", x.count(3), 1);
    x.seed(2);
    due("inflate() of TYPE 1", x.inflate(), 3);
    // A, B, C become 0, G, G E(3); Q is G - 1 and R is Z.
    int[] types = {1, 1, 0};
    int[][] corners = {{0, 1, 0, 0}, {0, 1, 1, 0}, {0, 0, 0, 0}, {-1, 0, -1, -1}, {0, 1, 0, 0}, {0, 0, -1, -1},
        {0, 1, 0, 0}, {-1, 0, -1, -1}, {0, 0, 0, 0}};
    for (int n = 0; n < 3; n++) {
      due("type of " + n, x.corner(n, 0, 4), types[n]);
      for (int corner = 0; corner < 3; corner++) {
        dueCorner("TYPE 1 divided", x, n, corner, corners[3 * n + corner]);
      }
    }
    FloorShop y = new FloorShop();
    y.place(1, 0, 0, 0, 0, 0, true);
    y.place(0, 5, 0, 0, 0, 0, true);
    due("inflate() of both", y.inflate(), 5);
    int[] order = {1, 1, 0, 0, 1};
    for (int n = 0; n < 5; n++) {
      due("order: type of " + n, y.corner(n, 0, 4), order[n]);
    }
    y.seed(3);
    due("inflate() of nothing", y.inflate(), 0);
    due("its level", y.count(3), 1);
  }

  private static void inflateLimits() {
    FloorShop x = new FloorShop();
    x.seed(0);
    int[] sizes = {20, 50, 130, 340};
    for (int size : sizes) {
      due("inflate()", x.inflate(), size);
    }
    String before = state(x);
    due("inflate() to 890", x.inflate(), NONE);
    dueSame("inflate() to 890", before, x);
    due("level", x.count(3), 4);
    due("no two clash", x.clash(), 0);
    FloorShop y = new FloorShop();
    for (int n = 0; n < 200; n++) {
      y.place(0, 3 * n, 0, 0, 0, 0, true);
    }
    y.place(0, -3, 0, 0, 0, 0, true);
    due("inflate() to 402", y.inflate(), NONE);
    y.remove(200);
    y.remove(0);
    y.remove(0);
    y.place(1, -3, 0, 0, 0, 0, true);
    due("inflate() to 399", y.inflate(), 399);
    FloorShop z = new FloorShop();
    for (int n = 0; n < 200; n++) {
      z.place(0, 3 * n, 0, 0, 0, 0, true);
    }
    due("inflate() to 400", z.inflate(), 400);
    // Numbers of the points times G: b - d, b + c - d, b + c - a, c - a.
    FloorShop far = new FloorShop();
    far.place(0, 0, 500000, 0, -500001, 0, true);
    before = state(far);
    due("A would be too far", far.inflate(), NONE);
    dueSame("A would be too far", before, far);
    far.seed(3);
    far.place(0, 0, 500000, 0, -499999, 0, true);
    due("just within", far.inflate(), 2);
    dueCorner("just within", far, 0, 0, 1000000, 1000000, 500000, 0);
    far.seed(3);
    far.place(0, 0, 500000, 0, -500000, 0, true);
    due("C would be too far", far.inflate(), NONE);
    due("C would be too far: level", far.count(3), 0);
  }

  private static void deflate() {
    FloorShop x = new FloorShop();
    x.seed(0);
    x.inflate();
    String before = state(x);
    x.inflate();
    due("deflate() of what was divided twice", x.deflate(), 0);
    for (int what = 0; what < 7; what++) {
      due("count(" + what + ")", x.count(what), new int[] {20, 10, 10, 1, 10, 16, 20}[what]);
    }
    dueTrue("it is the same patch", samePatch(before, state(x)));
    due("deflate() of the rim", x.deflate(), 20);
    due("nothing is left", x.count(0), 0);
    due("level", x.count(3), 0);
    due("deflate() of none", x.deflate(), NONE);
    due("level of none", x.count(3), 0);
    FloorShop y = new FloorShop();
    // X, N and M of TYPE 0: X and N become one, M is left out.
    y.place(0, 0, 0, 0, 0, 0, true);
    y.place(1, 1, 0, 0, 0, 5, true);
    y.place(0, 0, 0, 0, 0, 2, false);
    due("deflate() of three", y.deflate(), 1);
    due("one is left", y.count(0), 1);
    due("it is of TYPE 0", y.corner(0, 0, 4), 0);
    // N's C is 1 + E(8), X's C is E(1) and X's A is 0, all divided by G.
    dueCorner("A", y, 0, 0, 0, 0, -1, 0);
    dueCorner("B", y, 0, 1, 1, 1, 0, 1);
    dueCorner("C", y, 0, 2, 0, 0, 0, 0);
    due("the level may be below 0", y.count(3), -1);
    y.seed(3);
    // With M of TYPE 1 all three become one.
    y.place(1, 0, 0, 0, 0, 4, false);
    y.place(1, 1, 0, 0, 0, 5, true);
    y.place(0, 0, 0, 0, 0, 0, true);
    due("deflate() of three to one", y.deflate(), 0);
    due("it is of TYPE 1", y.corner(0, 0, 4), 1);
    dueCorner("X's C", y, 0, 0, 1, 1, 0, 1);
    dueCorner("N's C", y, 0, 1, 0, 0, -1, 0);
    dueCorner("M's B", y, 0, 2, 0, 1, 0, 1);
    due("one half", y.count(0), 1);
    y.seed(3);
    y.place(0, 0, 0, 0, 0, 0, true);
    y.place(1, 1, 0, 0, 0, 5, true);
    due("deflate() without M", y.deflate(), 2);
    y.seed(3);
    y.place(0, 0, 0, 0, 0, 0, true);
    y.place(1, 0, 0, 0, 0, 4, false);
    due("deflate() without N", y.deflate(), 2);
    due("nothing is left", y.count(0), 0);
  }

  /** The same halves; the order is that of the X they come from. */
  private static boolean samePatch(String state, String other) {
    return halves(state).equals(halves(other));
  }

  private static Set<String> halves(String state) {
    String[] words = state.split(" ");
    Set<String> halves = new TreeSet<>();
    for (int i = 7; i + 15 <= words.length; i += 15) {
      halves.add(String.join(" ", Arrays.copyOfRange(words, i, i + 15)));
    }
    return halves;
  }

  private static void deflateOrder() {
    // A half of TYPE 1 may be the M of one half and the N of another: the first of the two uses it.
    FloorShop x = new FloorShop();
    due("X", x.place(0, 0, 0, 0, 0, 0, true), 0);
    due("its N", x.place(1, 1, 0, 0, 0, 5, true), 1);
    due("its M, and the other's N", x.place(1, 0, 0, 0, 0, 4, false), 2);
    due("the other X", x.place(0, 0, 0, 1, 0, 9, false), 3);
    due("its M of TYPE 0", x.place(0, 0, 0, 1, 0, 7, true), 4);
    due("deflate(): what was used as M is no N", x.deflate(), 2);
    due("none of TYPE 0", x.count(1), 0);
    due("one of TYPE 1", x.count(2), 1);
    FloorShop y = new FloorShop();
    due("the other X", y.place(0, 0, 0, 1, 0, 9, false), 0);
    due("its M of TYPE 0", y.place(0, 0, 0, 1, 0, 7, true), 1);
    due("its N, and M of X", y.place(1, 0, 0, 0, 0, 4, false), 2);
    due("X", y.place(0, 0, 0, 0, 0, 0, true), 3);
    due("its N", y.place(1, 1, 0, 0, 0, 5, true), 4);
    due("deflate(): what was used as N is no M", y.deflate(), 3);
    due("one of TYPE 0", y.count(1), 1);
    due("none of TYPE 1", y.count(2), 0);
    // New halves are in the order of their X, wherever N and M stand.
    FloorShop z = new FloorShop();
    due("N of the second", z.place(1, 101, 0, 0, 0, 5, true), 0);
    due("M of the second", z.place(0, 100, 0, 0, 0, 2, false), 1);
    due("first X", z.place(0, 0, 0, 0, 0, 0, true), 2);
    due("second X", z.place(0, 100, 0, 0, 0, 0, true), 3);
    due("N of the first", z.place(1, 1, 0, 0, 0, 5, true), 4);
    due("M of the first", z.place(1, 0, 0, 0, 0, 4, false), 5);
    due("deflate() of both", z.deflate(), 1);
    due("first", z.corner(0, 0, 4), 1);
    due("second", z.corner(1, 0, 4), 0);
    dueCorner("second", z, 1, 2, -100, 0, -100, -100);
  }

  private static void deflateLimits() {
    // Numbers of the points divided by G: b - d - a, c - d, b - a, c - a - d.
    FloorShop x = new FloorShop();
    threeAt(x, -500000, 500001);
    String before = state(x);
    due("deflate() too far", x.deflate(), NONE);
    dueSame("deflate() too far", before, x);
    x.seed(3);
    threeAt(x, -499998, 499998);
    due("deflate() just within", x.deflate(), 1);
    dueCorner("just within", x, 0, 2, 999996, 0, 999996, 499998);
    FloorShop y = new FloorShop();
    y.place(0, -900000, 900000, 0, 0, 0, true);
    due("what is left out may be anywhere", y.deflate(), 1);
    due("nothing is left", y.count(0), 0);
  }

  private static void threeAt(FloorShop x, int a, int b) {
    x.place(0, a, b, 0, 0, 0, true);
    x.place(1, a + 1, b, 0, 0, 5, true);
    x.place(0, a, b, 0, 0, 2, false);
    due("three halves", x.count(0), 3);
  }

  private static void clash() {
    FloorShop x = new FloorShop();
    x.seed(0);
    due("sun: clash()", x.clash(), 0);
    FloorShop y = clashingPatch();
    due("clashing patch: count(0)", y.count(0), 2);
    due("clash() of the second", y.clash(), 2);
    due("another half", y.place(0, 9, 0, 0, 0, 0, true), 2);
    due("clash() is the least", y.clash(), 2);
    dueTrue("remove", y.remove(0));
    due("clash() of those that are left", y.clash(), 0);
    FloorShop z = clashingPatch();
    due("divided again", z.inflate(), 5);
    due("clash() divided again", z.clash(), 0);
  }

  private static void count() {
    FloorShop x = new FloorShop();
    x.seed(2);
    int[] one = {1, 0, 1, 0, 3, 3, 0};
    for (int what = 0; what < 7; what++) {
      due("TYPE 1: count(" + what + ")", x.count(what), one[what]);
    }
    x.place(1, 1, 1, 1, 1, 0, true);
    int[] apart = {2, 0, 2, 0, 6, 5, 0};
    for (int what = 0; what < 7; what++) {
      due("a corner in common: count(" + what + ")", x.count(what), apart[what]);
    }
    x.remove(1);
    // The other half of the whole tile: A at E(0) + E(3), the same B and C.
    due("a whole tile", x.place(1, 2, 1, 1, 1, 8, false), 1);
    int[] two = {2, 0, 2, 0, 4, 4, 2};
    for (int what = 0; what < 7; what++) {
      due("whole tile: count(" + what + ")", x.count(what), two[what]);
    }
    x.inflate();
    x.inflate();
    due("level", x.count(3), 2);
    due("16 halves", x.count(0), 16);
    due("6 of TYPE 0", x.count(1), 6);
    due("10 of TYPE 1", x.count(2), 10);
    for (int what : new int[] {-1, 7, MIN, MAX}) {
      due("count(" + what + ")", x.count(what), NONE);
    }
    FloorShop sun = new FloorShop();
    sun.seed(0);
    due("sun: lone edges", sun.count(4), 10);
    due("sun: points", sun.count(5), 11);
    due("sun: none is a whole tile", sun.count(6), 0);
    sun.inflate();
    due("sun divided: lone edges", sun.count(4), 10);
    due("sun divided: points", sun.count(5), 16);
    due("sun divided: all are", sun.count(6), 20);
    sun.remove(0);
    due("one less", sun.count(6), 18);
    due("one less: lone edges", sun.count(4), 11);
    FloorShop clashing = clashingPatch();
    due("edges along each other are different pieces", clashing.count(4), 6);
    due("and their ends different points", clashing.count(5), 5);
  }

  private static void corner() {
    FloorShop x = new FloorShop();
    x.seed(2);
    due("corner(0, 2, 3)", x.corner(0, 2, 3), 1);
    for (int corner = 0; corner < 3; corner++) {
      due("type by corner " + corner, x.corner(0, corner, 4), 1);
    }
    int[][] none = {{-1, 0, 0}, {1, 0, 0}, {MAX, 0, 0}, {MIN, 0, 0}, {0, -1, 0}, {0, 3, 0}, {0, MAX, 0}, {0, MIN, 0},
        {0, 0, -1}, {0, 0, 5}, {0, 0, MAX}, {0, 0, MIN}, {0, 3, 4}, {1, 0, 4}};
    for (int[] ask : none) {
      due("corner" + Arrays.toString(ask), x.corner(ask[0], ask[1], ask[2]), NO_NUMBER);
    }
  }

  private static void star() {
    FloorShop x = new FloorShop();
    x.seed(0);
    int[][] wants = {{10, 10, 1}, {2, 4, 0}, {2, 4, 0}};
    for (int corner = 0; corner < 3; corner++) {
      for (int what = 0; what < 3; what++) {
        due("sun: star(4, " + corner + ", " + what + ")", x.star(4, corner, what), wants[corner][what]);
      }
    }
    x.remove(9);
    due("nine: star(0, 0, 0)", x.star(0, 0, 0), 9);
    due("nine: star(0, 0, 1)", x.star(0, 0, 1), 9);
    due("nine: star(0, 0, 2)", x.star(0, 0, 2), 0);
    x.seed(2);
    int[] angles = {3, 1, 1};
    for (int corner = 0; corner < 3; corner++) {
      due("TYPE 1: star", x.star(0, corner, 1), angles[corner]);
    }
    x.seed(1);
    angles = new int[] {1, 2, 2};
    for (int corner = 0; corner < 3; corner++) {
      due("TYPE 0: star", x.star(0, corner, 1), angles[corner]);
    }
    int[][] none = {{-1, 0, 0}, {1, 0, 0}, {MAX, 0, 0}, {MIN, 0, 0}, {0, -1, 0}, {0, 3, 1}, {0, MAX, 0}, {0, MIN, 0},
        {0, 0, -1}, {0, 0, 3}, {0, 0, MAX}, {0, 0, MIN}};
    for (int[] ask : none) {
      due("star" + Arrays.toString(ask), x.star(ask[0], ask[1], ask[2]), NONE);
    }
    FloorShop y = clashingPatch();
    due("clashing two: star(0, 1, 0)", y.star(0, 1, 0), 2);
    // Eight more round E(9) fill the way round, but the first two clash.
    int[] ways = {5, 7, 7, 9, 9, 1, 1, 3};
    for (int i = 0; i < 8; i++) {
      due("half round E(9)", y.place(0, 0, 0, -1, 0, ways[i], i % 2 == 0), 2 + i);
    }
    due("clashing star: halves", y.star(0, 1, 0), 10);
    due("clashing star: angles", y.star(0, 1, 1), 10);
    due("clashing star: not covered well", y.star(0, 1, 2), 0);
    dueTrue("remove", y.remove(0));
    due("another half in its place", y.place(0, 0, 0, -1, 0, 3, true), 9);
    due("the star is covered now", y.star(0, 0, 2), 1);
  }

  private static void inside() {
    FloorShop x = new FloorShop();
    x.seed(0);
    due("0 is in all: the least", x.inside(0, 0, 0, 0), 0);
    due("E(0) is in 0 and 9", x.inside(1, 0, 0, 0), 0);
    due("E(1) is in 0 and 1", x.inside(0, 0, 0, -1), 0);
    due("E(2)", x.inside(0, 1, 0, 0), 1);
    due("E(7)", x.inside(0, -1, 0, 0), 6);
    due("E(9)", x.inside(0, 0, -1, 0), 8);
    // 1 / G = G - 1 lies on the edge from 0 to E(0); G is outside.
    due("on an edge", x.inside(-1, 0, -1, -1), 0);
    due("G", x.inside(0, 0, -1, -1), NONE);
    due("2", x.inside(2, 0, 0, 0), NONE);
    // E(3) + E(4) lies at 126 degrees, 1.90 away from 0; divided by G, 1.18; once more, 0.73.
    due("well within", x.inside(2, 0, 2, 1), 3);
    due("not within", x.inside(-1, 1, 0, 0), NONE);
    x.remove(0);
    due("E(0) without half 0", x.inside(1, 0, 0, 0), 8);
    for (int i = 0; i < 4; i++) {
      for (int far : new int[] {1000001, -1000001, MAX, MIN}) {
        int[] p = new int[4];
        p[i] = far;
        due("inside at " + far, x.inside(p[0], p[1], p[2], p[3]), NONE);
      }
    }
    x.seed(3);
    due("in nothing", x.inside(0, 0, 0, 0), NONE);
    x.place(0, 999999, 0, 0, 0, 0, true);
    due("at the limit", x.inside(1000000, 0, 0, 0), 0);
  }

  private static void insideNearEdges() {
    FloorShop x = new FloorShop();
    x.seed(1);
    for (int power = 1; power <= 28; power++) {
      int[] p = smallPoint(power);
      due("on AB, near A", x.inside(p[0], p[1], p[2], p[3]), 0);
      due("beyond A", x.inside(-p[0], -p[1], -p[2], -p[3]), NONE);
      due("on AB, near B", x.inside(1 - p[0], -p[1], -p[2], -p[3]), 0);
      due("beyond B", x.inside(1 + p[0], p[1], p[2], p[3]), NONE);
      // Times E(1): a, b, c, d become b - c, b - d, b, b - a.
      int[] q = {p[1] - p[2], p[1] - p[3], p[1], p[1] - p[0]};
      due("on AC, near A", x.inside(q[0], q[1], q[2], q[3]), 0);
      due("beyond A from C", x.inside(-q[0], -q[1], -q[2], -q[3]), NONE);
      due("beyond AB", x.inside(1 - q[0] - p[0], -q[1] - p[1], -q[2] - p[2], -q[3] - p[3]), NONE);
    }
  }

  private static void stepsOrdinary() {
    FloorShop x = new FloorShop();
    x.seed(0);
    // cos and sin of 36 * k degrees, times a million.
    long[] right = {1000000, 809017, 309017, -309017, -809017, -1000000, -809017, -309017, 309017, 809017};
    long[] up = {0, 587785, 951057, 951057, 587785, 0, -587785, -951057, -951057, -587785};
    for (int k = 0; k < 10; k++) {
      due("right of E(" + k + ")", x.steps(k, 1 + k % 2, 0, 1000000), right[k]);
      due("up of E(" + k + ")", x.steps(k, 1 + k % 2, 1, 1000000), up[k]);
      due("right of 0", x.steps(k, 0, 0, 1000000), 0);
      due("up of 0", x.steps(k, 0, 1, 1000000), 0);
    }
    due("E(1) in ten million", x.steps(0, 2, 0, 10000000), 8090170);
    due("E(1) up in ten million", x.steps(0, 2, 1, 10000000), 5877853);
    due("E(1) in 1", x.steps(0, 2, 0, 1), 1);
    due("E(2) in 1", x.steps(1, 1, 0, 1), 0);
    x.inflate();
    due("an edge keeps its length", x.steps(1, 0, 0, 1000), 1000);
    due("G", x.steps(0, 2, 0, 1000), 1618);
    FloorShop far = new FloorShop();
    far.place(0, 0, 1000000, 1000000, -1000000, 0, false);
    // 10^13 * (sin 72 + 2 sin 36), where sin 72 = 0.95105651629515.. and sin 36 = 0.58778525229247..
    due("far up", far.steps(0, 0, 1, 10000000), 21266270208801L);
    far.seed(3);
    far.place(0, 0, -1000000, -1000000, 1000000, 2, false);
    due("far down", far.steps(0, 0, 1, 10000000), -21266270208801L);
  }

  private static void stepsHalves() {
    // a + Z + Z^2 lies at a - 1/2.
    int[][] halves = {{0, 1, 0}, {0, 3, -1}, {0, 5, -2}, {1, 1, 1}, {1, 3, 2}, {1, 2, 1}, {0, 2, -1}, {2, 1, 2},
        {-1, 1, -1}, {1, 9999999, 5000000}, {0, 9999999, -4999999}};
    for (int[] ask : halves) {
      FloorShop x = new FloorShop();
      x.place(0, ask[0], 1, 1, 0, 0, true);
      due("half: steps of " + Arrays.toString(ask), x.steps(0, 0, 0, ask[1]), ask[2]);
    }
    // 1691591 * 915120 is F(60), and twice the place is F(60) G = F(61) - 0.0000000000003.
    FloorShop x = new FloorShop();
    x.place(0, 0, 0, -1000000, -691591, 0, true);
    due("a hair below a half", x.steps(0, 0, 0, 915120), 1252365390980L);
    x.seed(3);
    x.place(0, 0, 0, 999999, 691592, 0, true);
    due("a hair above a half", x.steps(0, 0, 0, 915120), -1252365390980L);
  }

  private static void stepsWrong() {
    FloorShop x = new FloorShop();
    x.place(0, 7, 3, 0, 0, 0, true);
    due("as it should be", x.steps(0, 0, 0, 10), 79);
    int[][] none = {{-1, 0, 0, 10}, {1, 0, 0, 10}, {MAX, 0, 0, 10}, {MIN, 0, 0, 10}, {0, -1, 0, 10}, {0, 3, 0, 10},
        {0, MAX, 0, 10}, {0, MIN, 0, 10}, {0, 0, -1, 10}, {0, 0, 2, 10}, {0, 0, MAX, 10}, {0, 0, MIN, 10},
        {0, 0, 0, 0}, {0, 0, 0, -1}, {0, 0, 0, 10000001}, {0, 0, 0, MAX}, {0, 0, 0, MIN}, {0, 0, 1, 0}, {0, 0, 1, 10000001}};
    for (int[] ask : none) {
      due("steps" + Arrays.toString(ask), x.steps(ask[0], ask[1], ask[2], ask[3]), 0);
    }
  }
}
