import java.util.Random;

/** Long runs of calls, the same ones each time, against the naive program. */
public final class ModelTest {
  private static final int ACTS = 256;
  /** What an object answers is told up to this call. */
  private static final int TOLD = 512;
  private static final Due due = new Due();

  private final Random random;
  private final RopeWalk walk = new RopeWalk();
  private final Model model = new Model();
  private final int longest;
  private final boolean strange;
  private final boolean sound;
  private final int usual;
  private int calls = 0;

  private ModelTest(long seed) {
    random = new Random(seed);
    int[] lengths = {4, 30, 200, 2000};
    longest = lengths[below(lengths.length)];
    strange = below(4) == 0;
    sound = below(3) == 0;
    usual = 1 + below(2);
  }

  public static void main(String[] args) {
    int runs = args.length > 0 ? Integer.parseInt(args[0]) : 3000;
    for (long seed = 0; seed < runs && due.allRight(); seed++) {
      due.about("run " + seed);
      new ModelTest(seed).run();
    }
    due.end();
  }

  private void run() {
    int ropes = below(2) * below(12);
    for (int n = 0; n < ropes; n++) makeRope(usual);
    for (int n = 0; n < ropes; n++) join();
    int first = ropes > 0 ? 0 : below(12);
    for (int n = 0; n < ACTS && calls < TOLD; n++) {
      if (n < first) build();
      else any();
    }
    for (int n = 0; calls < TOLD && n < 8 * model.count(0); n++) {
      is("of(" + n / 8 + ", " + n % 8 + ")", walk.of(n / 8, n % 8), model.of(n / 8, n % 8));
    }
  }

  private void is(String call, long got, long want) {
    calls++;
    if (calls <= TOLD) due.is(call, got, want);
  }

  private void isReal(String call, double got, double want) {
    calls++;
    if (calls <= TOLD) due.isReal(call, got, want);
  }

  private int below(int n) {
    return random.nextInt(n);
  }

  private int odd() {
    int[] odds = {-1, -2, 0, 9, 10, 6, 120, 400, 401, 1999, 2000, 2001, 80000, 80001, 800000, 800001,
        1000000, 1000001, Integer.MAX_VALUE, Integer.MIN_VALUE, Integer.MAX_VALUE - 1};
    return odds[below(odds.length)];
  }

  /** A number of low to high, or, now and then, an odd one. */
  private int from(int low, int high) {
    if (strange && below(25) == 0) return odd();
    if (below(60) == 0) return below(2) == 0 ? low - 1 : high + 1;
    return low + below(high - low + 1);
  }

  private int piece() {
    return from(0, Math.max(0, model.count(0) - 1));
  }

  /** A free piece of this kind and twist (-1: of any); failing that, another rope, then any. */
  private int freeOf(int kind, int twist) {
    int pieces = model.count(0);
    int rope = -1;
    for (int tries = 0; tries < 200 && pieces > 0; tries++) {
      int p = below(pieces);
      boolean may = model.of(p, 3) == 0 && (twist < 0 || model.of(p, 2) == twist);
      if (may && (kind < 0 || model.of(p, 0) == kind)) return p;
      if (may && model.of(p, 0) == 2) rope = p;
    }
    return rope >= 0 && below(20) > 0 ? rope : piece();
  }

  private void pick(int p) {
    is("pick(" + p + ")", walk.pick(p), model.pick(p));
  }

  private void drop() {
    is("drop()", walk.drop(), model.drop());
  }

  private void lay(int kind, int twist, int turns) {
    is("lay(" + kind + ", " + twist + ", " + turns + ")", walk.lay(kind, twist, turns),
        model.lay(kind, twist, turns));
  }

  private void spin() {
    int length = from(1, longest);
    int eighths = below(6) == 0 ? from(0, 80000) : from(8, 60);
    if (below(3) > 0) is("yarn", walk.yarn(length, eighths), model.yarn(length, eighths));
    else is("tape", walk.tape(length, eighths), model.tape(length, eighths));
  }

  /** A new piece, most often with all its parts made for it, or wear for an old one. */
  private void build() {
    int twist = 1 + below(2);
    switch (below(10)) {
      case 0:
        makeStrand(twist);
        break;
      case 1:
      case 2:
      case 3:
        makeRope(usual);
        break;
      case 4:
      case 5:
        join();
        break;
      case 6:
        spin();
        break;
      default:
        wear();
    }
  }

  private void join() {
    int twist = below(4) == 0 ? 3 - usual : usual;
    if (below(3) == 0) layCable(3 - twist);
    else splice(twist);
  }

  private void makeStrand(int twist) {
    drop();
    int parts = below(12) == 0 ? 1 + below(10) : 2;
    for (int i = 0; i < parts; i++) {
      spin();
      pick(model.count(0) - 1);
    }
    lay(1, twist, below(2) == 0 ? 0 : from(0, 400));
  }

  private void makeRope(int twist) {
    int parts = below(6) == 0 ? 2 + below(4) : 3;
    int[] strands = new int[parts];
    for (int i = 0; i < strands.length; i++) {
      makeStrand(below(40) == 0 ? twist : 3 - twist);
      strands[i] = model.count(0) - 1;
      if (below(5) == 0) wear();
    }
    drop();
    for (int p : strands) pick(p);
    lay(2, twist, below(2) == 0 ? 0 : from(0, 400));
  }

  private void layCable(int twist) {
    drop();
    for (int i = 0; i < 12 && model.count(5) < 3; i++) pick(freeOf(below(2) == 0 ? 2 : 5, 3 - twist));
    lay(3, twist, below(2) == 0 ? 0 : from(0, 400));
  }

  private void splice(int twist) {
    int a = freeOf(2 + below(2), twist);
    int b = freeOf(below(2) == 0 ? 2 : 5, twist);
    for (int i = 0; i < 12 && b == a; i++) b = freeOf(2 + below(2), twist);
    int most = Math.max(1, Math.min(model.of(a, 1), model.of(b, 1)));
    int over = below(4) == 0 ? from(1, longest) : below(5) == 0 ? most : 1 + below(most);
    is("splice(" + a + ", " + b + ", " + over + ")", walk.splice(a, b, over), model.splice(a, b, over));
  }

  private void wear() {
    int p = piece();
    int n = from(0, 8);
    is("row(" + p + ", " + n + ")", walk.row(p, n), model.row(p, n));
    for (int i = below(3); i < n && i < 8; i += 1 + below(3)) spot(p, i);
  }

  private void spot(int p, int i) {
    int length = Math.max(1, model.of(p, 1));
    int start = below(4) == 0 ? from(0, 2000) : from(0, length);
    int end = below(4) == 0 ? from(0, 2000) : from(start, start + 1 + length / 8);
    int eighths = sound ? from(6, 8) : from(-1, 8);
    is("spot(" + p + ", " + i + ", " + start + ", " + end + ", " + eighths + ")",
        walk.spot(p, i, start, end, eighths), model.spot(p, i, start, end, eighths));
  }

  private void any() {
    switch (below(12)) {
      case 0:
      case 1:
        build();
        break;
      case 2:
      case 3:
        rows();
        break;
      case 4:
      case 5:
      case 6:
        reels();
        break;
      case 7:
        tackle();
        break;
      case 8:
        look();
        break;
      default:
        bearing();
    }
  }

  private void rows() {
    int p = piece();
    int q = below(3) == 0 ? p : piece();
    switch (below(6)) {
      case 0:
        wear();
        break;
      case 1:
        if (below(3) == 0) is("lose(" + p + ")", walk.lose(p), model.lose(p));
        break;
      case 2:
        int i = from(0, 5);
        int k = from(0, 5);
        int n = from(0, 4);
        is("carry(" + p + ", " + i + ", " + q + ", " + k + ", " + n + ")",
            walk.carry(p, i, q, k, n), model.carry(p, i, q, k, n));
        break;
      default:
        spot(p, from(0, 7));
    }
  }

  private void look() {
    int p = piece();
    int k = from(0, 8);
    switch (below(6)) {
      case 0:
        is("of(" + p + ", " + k + ")", walk.of(p, k), model.of(p, k));
        break;
      case 1:
        is("part(" + p + ", " + k + ")", walk.part(p, k), model.part(p, k));
        break;
      case 2:
        is("count(" + k + ")", walk.count(k), model.count(k));
        break;
      case 3:
        is("untwist(" + p + ")", walk.untwist(p), model.untwist(p));
        break;
      case 4:
        if (below(3) == 0) drop();
        else pick(p);
        break;
      default:
        lay(from(1, 3), from(1, 2), from(0, 400));
    }
  }

  private void bearing() {
    int p = piece();
    switch (below(7)) {
      case 0:
        int x = from(0, Math.max(1, model.of(p, 1)) - 1);
        isReal("bears(" + p + ", " + x + ")", walk.bears(p, x), model.bears(p, x));
        break;
      case 1:
        isReal("least(" + p + ")", walk.least(p), model.least(p));
        break;
      case 2:
        is("where(" + p + ")", walk.where(p), model.where(p));
        break;
      case 3:
        is("grams(" + p + ")", walk.grams(p), model.grams(p));
        break;
      case 4:
        int e = from(1, below(2) == 0 ? 80000 : 90);
        isReal("rest(" + p + ", " + e + ")", walk.rest(p, e), model.rest(p, e));
        break;
      case 5:
        int t = from(1, below(2) == 0 ? 1000000 : 9000);
        isReal("left(" + p + ", " + t + ")", walk.left(p, t), model.left(p, t));
        break;
      default:
        turned(p);
    }
  }

  private void turned(int p) {
    int near = (int) (model.least(p) * 8) + below(40) - 20;
    int e = below(3) > 0 && near >= 0 ? near : from(0, 80000);
    for (int how = -1; how < 14; how++) {
      is("turned(" + p + ", " + e + ", " + how + ")", walk.turned(p, e, how), model.turned(p, e, how));
    }
  }

  private void reels() {
    int r = from(0, 5);
    int o = from(0, 5);
    switch (below(10)) {
      case 0:
      case 1:
        int p = below(4) == 0 ? piece() : freeOf(below(6), -1);
        is("hang(" + r + ", " + p + ")", walk.hang(r, p), model.hang(r, p));
        break;
      case 2:
        is("off(" + r + ")", walk.off(r), model.off(r));
        break;
      case 3:
        int kind = from(0, 5);
        is("take(" + r + ", " + kind + ")", walk.take(r, kind), model.take(r, kind));
        break;
      case 4:
        order();
        break;
      case 5:
      case 6:
        is("cut(" + o + ")", walk.cut(o), model.cut(o));
        break;
      case 7:
        is("join(" + o + ")", walk.join(o), model.join(o));
        break;
      case 8:
        is("begun()", walk.begun(), model.begun());
        break;
      default:
        is("fewest()", walk.fewest(), model.fewest());
    }
  }

  private void order() {
    int length = from(1, below(3) > 0 ? Math.max(1, longest / 4) : longest);
    int eighths = below(8) == 0 ? from(0, 800000) : from(0, 60);
    is("order(" + length + ", " + eighths + ")", walk.order(length, eighths), model.order(length, eighths));
  }

  private void tackle() {
    int load = from(0, below(2) == 0 ? 1000000 : 100);
    int what = from(0, 1);
    int k = from(0, 9);
    switch (below(5)) {
      case 0:
      case 1:
        int ropes = below(12) == 0 ? 0 : from(1, 8);
        is("stage(" + ropes + ")", walk.stage(ropes), model.stage(ropes));
        break;
      case 2:
        is("unstage()", walk.unstage(), model.unstage());
        break;
      case 3:
        is("pull(" + load + ", " + what + ")", walk.pull(load, what), model.pull(load, what));
        break;
      default:
        is("stress(" + k + ", " + load + ", " + what + ")", walk.stress(k, load, what),
            model.stress(k, load, what));
    }
  }
}
