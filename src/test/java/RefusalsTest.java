import java.util.function.Supplier;
import java.util.function.ToDoubleFunction;

/**
 * A call that is refused, and one that only asks, changes nothing: made on one of two objects that
 * have been made alike, it leaves both of them telling the same.
 */
public final class RefusalsTest {
  private static final int[] NONE = {-1, 27, 119, 120, Integer.MIN_VALUE, Integer.MAX_VALUE};
  private static final int LAID = 9;
  private static final int GONE = 23;
  private static final int HUNG = 24;
  private static final int[] NOT_FREE = {LAID, HUNG, GONE};

  private static final Due due = new Due();
  private static Supplier<RopeWalk> scene;
  private static String untouched;

  public static void main(String[] args) {
    in("empty", Scene::empty);
    onNothing();
    in("usual", Scene::usual);
    pieces();
    laying();
    splicing();
    looks();
    rows();
    spots();
    carries();
    bearing();
    turned();
    reels();
    orders();
    tackle();
    asks();
    in("full", Scene::full);
    onAllFull();
    asks();
    in("bound", Scene::bound);
    onBound();
    due.end();
  }

  private static void in(String name, Supplier<RopeWalk> made) {
    due.about("refused, " + name);
    scene = made;
    untouched = Scene.told(scene.get());
  }

  private static void refused(String call, double want, ToDoubleFunction<RopeWalk> act) {
    RopeWalk x = scene.get();
    due.isReal(call, act.applyAsDouble(x), want);
    due.same("all behind " + call, Scene.told(x), untouched);
  }

  private static void changesNothing(String call, ToDoubleFunction<RopeWalk> act) {
    RopeWalk x = scene.get();
    act.applyAsDouble(x);
    due.same("all behind " + call, Scene.told(x), untouched);
  }

  private static void onNothing() {
    refused("pick(0)", -2, x -> x.pick(0));
    refused("drop()", 0, x -> x.drop());
    refused("lay(1, 1, 0)", -2, x -> x.lay(1, 1, 0));
    refused("splice(0, 1, 1)", -2, x -> x.splice(0, 1, 1));
    refused("untwist(0)", -2, x -> x.untwist(0));
    refused("of(0, 0)", -2, x -> x.of(0, 0));
    refused("part(0, 0)", -2, x -> x.part(0, 0));
    refused("row(0, 0)", -2, x -> x.row(0, 0));
    refused("row(0, -1)", -2, x -> x.row(0, -1));
    refused("lose(0)", -2, x -> x.lose(0));
    refused("spot(0, 0, 0, 0, 1)", -2, x -> x.spot(0, 0, 0, 0, 1));
    refused("carry(0, 0, 0, 0, 0)", -2, x -> x.carry(0, 0, 0, 0, 0));
    refused("bears(0, 0)", -2, x -> x.bears(0, 0));
    refused("least(0)", -2, x -> x.least(0));
    refused("where(0)", -2, x -> x.where(0));
    refused("grams(0)", -2, x -> x.grams(0));
    refused("rest(0, 1)", -2, x -> x.rest(0, 1));
    refused("left(0, 1)", -2, x -> x.left(0, 1));
    refused("turned(0, 0, 0)", -1000000, x -> x.turned(0, 0, 0));
    refused("hang(0, 0)", -2, x -> x.hang(0, 0));
    refused("off(0)", -10, x -> x.off(0));
    refused("take(0, 0)", -10, x -> x.take(0, 0));
    refused("cut(0)", -2, x -> x.cut(0));
    refused("join(0)", -2, x -> x.join(0));
    refused("begun()", 0, x -> x.begun());
    refused("fewest()", 0, x -> x.fewest());
    refused("unstage()", -2, x -> x.unstage());
    refused("pull(0, 2)", -2, x -> x.pull(0, 2));
    refused("stress(0, 0, 0)", -2, x -> x.stress(0, 0, 0));
  }

  private static void pieces() {
    int[][] wrong = {{0, 8}, {2001, 8}, {5, -1}, {5, 80001}, {0, -1}, {2001, 80001}};
    for (int[] w : wrong) {
      refused("yarn(" + w[0] + ", " + w[1] + ")", -2, x -> x.yarn(w[0], w[1]));
      refused("tape(" + w[0] + ", " + w[1] + ")", -2, x -> x.tape(w[0], w[1]));
    }
    for (int p : NONE) {
      refused("pick(" + p + ")", -2, x -> x.pick(p));
      refused("untwist(" + p + ")", -2, x -> x.untwist(p));
    }
    for (int p : NOT_FREE) {
      refused("pick(" + p + ")", -2, x -> x.pick(p));
      refused("untwist(" + p + ")", -2, x -> x.untwist(p));
    }
    refused("pick(22) again", -2, x -> x.pick(22));
    refused("untwist(22), which has no parts", -2, x -> x.untwist(22));
  }

  private static void laying() {
    int[][] wrong = {{0, 1, 0}, {4, 1, 0}, {5, 1, 0}, {1, 0, 0}, {1, 3, 0}, {1, 1, -1}, {1, 1, 401},
        {2, 1, 0}, {3, 1, 0}};
    for (int[] w : wrong) {
      refused("lay(" + w[0] + ", " + w[1] + ", " + w[2] + ")", -2, x -> x.lay(w[0], w[1], w[2]));
    }
    in("usual, one that is picked is hung", () -> alsoPickedAndHung());
    refused("lay(1, 1, 0)", -2, x -> x.lay(1, 1, 0));
    in("usual, with a short one", () -> alsoPicked(26));
    refused("lay(1, 1, 1), its length would be 0", -2, x -> x.lay(1, 1, 1));
    in("usual, with a splice", () -> alsoPicked(20));
    refused("lay(1, 1, 0)", -2, x -> x.lay(1, 1, 0));
    refused("lay(2, 1, 0)", -2, x -> x.lay(2, 1, 0));
    refused("lay(3, 1, 0)", -2, x -> x.lay(3, 1, 0));
    in("usual", Scene::usual);
  }

  private static RopeWalk alsoPicked(int p) {
    RopeWalk x = Scene.usual();
    x.pick(p);
    return x;
  }

  private static RopeWalk alsoPickedAndHung() {
    RopeWalk x = Scene.usual();
    x.hang(0, 21);
    return x;
  }

  private static RopeWalk alsoRopes() {
    RopeWalk x = Scene.usual();
    Make.rope(x, 10, 8, Make.LEFT);
    Make.rope(x, 10, 8, Make.RIGHT);
    return x;
  }

  private static void splicing() {
    in("usual, with two ropes", () -> alsoRopes());
    int[][] wrong = {{-1, 36, 1}, {36, -1, 1}, {47, 36, 1}, {36, 47, 1}, {36, 36, 1}, {36, LAID, 1},
        {LAID, 36, 1}, {36, GONE, 1}, {GONE, 36, 1}, {36, 22, 1}, {22, 36, 1}, {36, 46, 1}, {46, 36, 1},
        {36, 20, 0}, {36, 20, 11}, {20, 36, 11}, {20, 36, -1}};
    for (int[] w : wrong) {
      refused("splice(" + w[0] + ", " + w[1] + ", " + w[2] + ")", -2, x -> x.splice(w[0], w[1], w[2]));
    }
    in("usual", Scene::usual);
  }

  private static void looks() {
    for (int p : NONE) {
      refused("of(" + p + ", 0)", -2, x -> x.of(p, 0));
      refused("part(" + p + ", 0)", -2, x -> x.part(p, 0));
    }
    for (int what : new int[] {-1, 8, 9, Integer.MAX_VALUE}) {
      refused("of(9, " + what + ")", -2, x -> x.of(9, what));
    }
    for (int k : new int[] {-1, 3, 4, Integer.MAX_VALUE}) refused("part(9, " + k + ")", -2, x -> x.part(9, k));
    refused("count(-1)", -2, x -> x.count(-1));
    refused("count(9)", -2, x -> x.count(9));
  }

  private static void rows() {
    for (int p : NONE) {
      refused("row(" + p + ", 1)", -2, x -> x.row(p, 1));
      refused("lose(" + p + ")", -2, x -> x.lose(p));
    }
    refused("row(23, 1)", -2, x -> x.row(GONE, 1));
    refused("row(23, -1)", -2, x -> x.row(GONE, -1));
    refused("row(22, 9)", -2, x -> x.row(22, 9));
    refused("row(22, -1)", -13, x -> x.row(22, -1));
    refused("row(25, -1), which has none", -13, x -> x.row(25, -1));
    refused("lose(23)", -2, x -> x.lose(GONE));
    refused("lose(25), which has none", 0, x -> x.lose(25));
  }

  private static void spots() {
    for (int p : NONE) refused("spot(" + p + ", 0, 0, 0, 1)", -2, x -> x.spot(p, 0, 0, 0, 1));
    refused("spot(23, 1, 0, 0, 1)", -2, x -> x.spot(GONE, 1, 0, 0, 1));
    int[][] wrong = {{-1, 0, 1}, {2001, 0, 1}, {0, -1, 1}, {0, 2001, 1}, {0, 0, -2}, {0, 0, 9},
        {-1, 0, -1}, {2001, 0, -1}, {0, -1, -1}, {0, 2001, -1}};
    for (int[] w : wrong) {
      String rest = w[0] + ", " + w[1] + ", " + w[2] + ")";
      refused("spot(24, 0, " + rest, -2, x -> x.spot(24, 0, w[0], w[1], w[2]));
      refused("spot(24, 2, " + rest, -2, x -> x.spot(24, 2, w[0], w[1], w[2]));
    }
    for (int eighths = -1; eighths <= 8; eighths += 3) {
      int e = eighths;
      refused("spot(25, 0, 0, 5, " + e + ")", -10, x -> x.spot(25, 0, 0, 5, e));
      refused("spot(24, 3, 0, 5, " + e + ")", -11, x -> x.spot(24, 3, 0, 5, e));
      refused("spot(24, -1, 0, 5, " + e + ")", -11, x -> x.spot(24, -1, 0, 5, e));
      refused("spot(22, 8, 0, 5, " + e + ")", -11, x -> x.spot(22, 8, 0, 5, e));
      refused("spot(21, 0, 0, 5, " + e + ")", -11, x -> x.spot(21, 0, 0, 5, e));
    }
  }

  private static void carries() {
    for (int p : NONE) {
      refused("carry(" + p + ", 0, 22, 0, 1)", -2, x -> x.carry(p, 0, 22, 0, 1));
      refused("carry(24, 0, " + p + ", 0, 1)", -2, x -> x.carry(24, 0, p, 0, 1));
    }
    refused("carry(23, 1, 22, 0, 1)", -2, x -> x.carry(GONE, 1, 22, 0, 1));
    refused("carry(24, 0, 23, 0, 1)", -2, x -> x.carry(24, 0, GONE, 0, 1));
    refused("carry(24, 0, 25, 0, 1)", -10, x -> x.carry(24, 0, 25, 0, 1));
    refused("carry(25, 0, 22, 0, 1)", -10, x -> x.carry(25, 0, 22, 0, 1));
    int[][] wrong = {{-1, 0, 1}, {0, -1, 1}, {0, 0, -1}, {0, 0, 4}, {1, 0, 3}, {3, 0, 1}, {0, 8, 1},
        {0, 6, 3}, {4, 0, 0}, {0, 9, 0}};
    for (int[] w : wrong) {
      refused("carry(24, " + w[0] + ", 22, " + w[1] + ", " + w[2] + ")", -11,
          x -> x.carry(24, w[0], 22, w[1], w[2]));
    }
    refused("carry(24, 0, 22, 8, 0)", 1, x -> x.carry(24, 0, 22, 8, 0));
    refused("carry(24, 1, 24, 1, 2), on itself", 2, x -> x.carry(24, 1, 24, 1, 2));
  }

  private static void bearing() {
    int[] none = {-1, 27, 120, GONE};
    for (int p : none) {
      refused("bears(" + p + ", 0)", -2, x -> x.bears(p, 0));
      refused("least(" + p + ")", -2, x -> x.least(p));
      refused("where(" + p + ")", -2, x -> x.where(p));
      refused("grams(" + p + ")", -2, x -> x.grams(p));
      refused("rest(" + p + ", 1)", -2, x -> x.rest(p, 1));
      refused("left(" + p + ", 1)", -2, x -> x.left(p, 1));
    }
    refused("bears(9, -1)", -2, x -> x.bears(9, -1));
    refused("bears(9, 20)", -2, x -> x.bears(9, 20));
    refused("rest(9, 0)", -2, x -> x.rest(9, 0));
    refused("rest(9, 80001)", -2, x -> x.rest(9, 80001));
    refused("left(9, 0)", -2, x -> x.left(9, 0));
    refused("left(9, 1000001)", -2, x -> x.left(9, 1000001));
  }

  private static void turned() {
    int[][] wrong = {{-1, 0, 0}, {27, 0, 0}, {GONE, 0, 0}, {9, -1, 0}, {9, 80001, 0}, {9, 0, -1}, {9, 0, 13},
        {GONE, -1, 13}};
    for (int[] w : wrong) {
      refused("turned(" + w[0] + ", " + w[1] + ", " + w[2] + ")", -1000000, x -> x.turned(w[0], w[1], w[2]));
    }
  }

  private static void reels() {
    for (int p : NONE) refused("hang(0, " + p + ")", -2, x -> x.hang(0, p));
    for (int p : NOT_FREE) {
      refused("hang(0, " + p + ")", -2, x -> x.hang(0, p));
      refused("hang(6, " + p + ")", -2, x -> x.hang(6, p));
    }
    for (int r : new int[] {-1, 6, Integer.MIN_VALUE, Integer.MAX_VALUE}) {
      refused("hang(" + r + ", 26)", -11, x -> x.hang(r, 26));
      refused("off(" + r + ")", -11, x -> x.off(r));
      refused("take(" + r + ", 0)", -11, x -> x.take(r, 0));
      refused("take(" + r + ", 6)", -2, x -> x.take(r, 6));
    }
    refused("hang(2, 26)", -2, x -> x.hang(2, 26));
    refused("off(0)", -10, x -> x.off(0));
    refused("off(2)", -2, x -> x.off(2));
    refused("take(0, 0)", -10, x -> x.take(0, 0));
    refused("take(2, 6)", -2, x -> x.take(2, 6));
    refused("take(2, -1)", -2, x -> x.take(2, -1));
    refused("take(2, 1)", -12, x -> x.take(2, 1));
  }

  private static void orders() {
    int[][] wrong = {{0, 8}, {2001, 8}, {5, -1}, {5, 800001}, {0, -1}};
    for (int[] w : wrong) refused("order(" + w[0] + ", " + w[1] + ")", -2, x -> x.order(w[0], w[1]));
    for (int o : new int[] {-1, 4, 6, Integer.MIN_VALUE, Integer.MAX_VALUE}) {
      refused("cut(" + o + ")", -2, x -> x.cut(o));
      refused("join(" + o + ")", -2, x -> x.join(o));
    }
    refused("cut(0), which is cut", -2, x -> x.cut(0));
    refused("cut(1), which fits nowhere", -1, x -> x.cut(1));
    refused("join(3), which isn't cut", -2, x -> x.join(3));
  }

  private static void tackle() {
    refused("stage(-1)", -2, x -> x.stage(-1));
    refused("stage(9)", -2, x -> x.stage(9));
    int[][] wrong = {{-1, 0}, {1000001, 0}, {5, -1}, {5, 2}};
    for (int[] w : wrong) {
      refused("pull(" + w[0] + ", " + w[1] + ")", -2, x -> x.pull(w[0], w[1]));
      refused("stress(0, " + w[0] + ", " + w[1] + ")", -2, x -> x.stress(0, w[0], w[1]));
    }
    refused("stress(-1, 5, 0)", -2, x -> x.stress(-1, 5, 0));
    refused("stress(2, 5, 0)", -2, x -> x.stress(2, 5, 0));
  }

  /** The calls that ask alone. */
  private static void asks() {
    changesNothing("of, part, count", x -> x.of(9, 5) + x.part(9, 1) + x.count(0) + x.count(8));
    changesNothing("bears", x -> x.bears(9, 3) + x.bears(20, 0));
    changesNothing("least, where, grams", x -> x.least(9) + x.where(20) + x.grams(9));
    changesNothing("rest, left", x -> x.rest(9, 3) + x.left(20, 3));
    changesNothing("turned", x -> x.turned(9, 3, 0) + x.turned(9, 3, 12));
    changesNothing("take", x -> x.take(2, 0) + x.take(4, 0));
    changesNothing("begun", x -> x.begun());
    changesNothing("fewest", x -> x.fewest());
    changesNothing("pull, stress", x -> x.pull(5, 0) + x.stress(1, 5, 1));
  }

  private static void onAllFull() {
    refused("yarn(1, 0)", -2, x -> x.yarn(1, 0));
    refused("tape(1, 0)", -2, x -> x.tape(1, 0));
    refused("pick(110), the tenth", -2, x -> x.pick(110));
    refused("lay(1, 1, 0), the 121st", -2, x -> x.lay(1, 1, 0));
    refused("splice(9, 19, 1), the 121st", -2, x -> x.splice(9, 19, 1));
    refused("row(60, 9)", -2, x -> x.row(60, 9));
    refused("row(60, -1)", -13, x -> x.row(60, -1));
    refused("spot(60, 8, 0, 5, 1)", -11, x -> x.spot(60, 8, 0, 5, 1));
    refused("carry(60, 1, 61, 0, 8)", -11, x -> x.carry(60, 1, 61, 0, 8));
    refused("carry(60, 0, 61, 1, 8)", -11, x -> x.carry(60, 0, 61, 1, 8));
    for (int reel = 0; reel < 6; reel++) {
      int r = reel;
      refused("hang(" + r + ", 62), which is full", -2, x -> x.hang(r, 62));
    }
    for (int reel = 0; reel < 5; reel++) {
      int r = reel;
      refused("off(" + r + "), from which an order is cut", -2, x -> x.off(r));
    }
    refused("order(1, 1), the seventh", -2, x -> x.order(1, 1));
    refused("cut(6)", -2, x -> x.cut(6));
    refused("join(6)", -2, x -> x.join(6));
    refused("join(5)", -2, x -> x.join(5));
    refused("stage(1), the eleventh", -2, x -> x.stage(1));
    refused("stress(10, 5, 0)", -2, x -> x.stress(10, 5, 0));
  }

  private static void onBound() {
    refused("pull(5, 0)", -1, x -> x.pull(5, 0));
    refused("pull(-1, 0)", -1, x -> x.pull(-1, 0));
    refused("pull(5, 2)", -1, x -> x.pull(5, 2));
    refused("stress(1, 5, 0)", -1, x -> x.stress(1, 5, 0));
    refused("stress(2, 5, 1)", -1, x -> x.stress(2, 5, 1));
    refused("stress(1, -1, 0)", -2, x -> x.stress(1, -1, 0));
    refused("stress(3, 5, 0)", -2, x -> x.stress(3, 5, 0));
    refused("cut(0), with no reels", -1, x -> x.cut(0));
    refused("fewest(), with no reels", -1, x -> x.fewest());
  }
}
