import java.math.BigInteger;
import java.util.ArrayList;
import java.util.List;

/** A second, naive program of the document, with the Java library at hand, place by place. */
final class Model {
  static final class Spot {
    final boolean told;
    final int from;
    final int to;
    final float share;

    Spot(boolean told, int from, int to, float share) {
      this.told = told;
      this.from = from;
      this.to = to;
      this.share = share;
    }
  }

  static final class Thing {
    int kind;
    int length;
    int twist;
    int eighths;
    int over;
    boolean gone;
    List<Thing> parts = new ArrayList<>();
    Thing whole;
    List<Spot> row;
  }

  static final class Want {
    int length;
    float need;
    int at = -1;
  }

  private static final Spot UNTOLD = new Spot(false, 0, 0, 0.0f);

  private final List<Thing> things = new ArrayList<>();
  private final List<Thing> picked = new ArrayList<>();
  private final Thing[] on = new Thing[6];
  private final List<Want> wants = new ArrayList<>();
  private final List<Integer> stages = new ArrayList<>();

  private Thing thing(int p) {
    return p >= 0 && p < things.size() ? things.get(p) : null;
  }

  private Thing standing(int p) {
    Thing t = thing(p);
    return t != null && !t.gone ? t : null;
  }

  private int state(Thing t) {
    if (t.gone) return 3;
    for (Thing hung : on) if (hung == t) return 2;
    return t.whole != null ? 1 : 0;
  }

  private int add(Thing t) {
    things.add(t);
    return things.size() - 1;
  }

  private int simple(int kind, int length, int eighths) {
    if (length < 1 || length > 2000 || eighths < 0 || eighths > 80000) return -2;
    if (things.size() == 120) return -2;
    Thing t = new Thing();
    t.kind = kind;
    t.length = length;
    t.eighths = eighths;
    return add(t);
  }

  int yarn(int length, int eighths) {
    return simple(0, length, eighths);
  }

  int tape(int length, int eighths) {
    return simple(4, length, eighths);
  }

  int pick(int p) {
    Thing t = thing(p);
    if (t == null || state(t) != 0 || picked.contains(t) || picked.size() == 9) return -2;
    picked.add(t);
    return picked.size();
  }

  int drop() {
    int n = picked.size();
    picked.clear();
    return n;
  }

  int lay(int kind, int twist, int turns) {
    if (kind < 1 || kind > 3 || twist < 1 || twist > 2 || turns < 0 || turns > 400) return -2;
    int n = picked.size();
    boolean many = kind == 1 ? n >= 2 && n <= 9 : kind == 2 ? n >= 3 && n <= 4 : n == 3;
    if (!many || things.size() == 120) return -2;
    int shortest = 2000;
    for (Thing t : picked) {
      String kinds = kind == 1 ? "04" : kind == 2 ? "1" : "25";
      if (state(t) != 0 || kinds.indexOf('0' + t.kind) < 0) return -2;
      if (kind != 1 && t.twist + twist != 3) return -2;
      shortest = Math.min(shortest, t.length);
    }
    Thing whole = new Thing();
    whole.kind = kind;
    whole.twist = twist;
    whole.length = shortest * (1000 - turns) / 1000;
    if (whole.length == 0) return -2;
    whole.parts.addAll(picked);
    for (Thing t : picked) t.whole = whole;
    picked.clear();
    return add(whole);
  }

  int splice(int a, int b, int over) {
    Thing s = thing(a);
    Thing t = thing(b);
    if (s == null || t == null || s == t || state(s) != 0 || state(t) != 0) return -2;
    if ("235".indexOf('0' + s.kind) < 0 || "235".indexOf('0' + t.kind) < 0) return -2;
    if (s.twist != t.twist || over < 1 || over > s.length || over > t.length) return -2;
    if (s.length + t.length - over > 2000 || things.size() == 120) return -2;
    Thing whole = new Thing();
    whole.kind = 5;
    whole.twist = s.twist;
    whole.length = s.length + t.length - over;
    whole.over = over;
    whole.parts.add(s);
    whole.parts.add(t);
    s.whole = whole;
    t.whole = whole;
    return add(whole);
  }

  int untwist(int p) {
    Thing t = thing(p);
    if (t == null || state(t) != 0 || t.parts.isEmpty()) return -2;
    for (Thing part : t.parts) part.whole = null;
    t.gone = true;
    return t.parts.size();
  }

  private int weight(Thing t) {
    int sum = t.kind == 0 || t.kind == 3 ? t.length : t.kind == 4 ? 2 * t.length : 0;
    for (Thing part : t.parts) sum += weight(part);
    return sum;
  }

  int of(int p, int what) {
    Thing t = thing(p);
    if (t == null || what < 0 || what > 7) return -2;
    int[] all = {t.kind, t.length, t.twist, state(t), t.parts.size(), weight(t),
        things.indexOf(t.whole), t.row == null ? -1 : t.row.size()};
    return all[what];
  }

  int part(int p, int k) {
    Thing t = thing(p);
    return t == null || k < 0 || k >= t.parts.size() ? -2 : things.indexOf(t.parts.get(k));
  }

  int count(int what) {
    if (what < 0 || what > 8) return -2;
    int[] states = new int[4];
    for (Thing t : things) states[state(t)]++;
    int cut = 0;
    for (Want w : wants) if (w.at >= 0) cut++;
    return new int[] {things.size(), states[0], states[1], states[2], states[3], picked.size(),
        wants.size(), cut, stages.size()}[what];
  }

  int row(int p, int n) {
    Thing t = standing(p);
    if (t == null || n > 8) return -2;
    if (n < 0) return -13;
    t.row = new ArrayList<>();
    for (int i = 0; i < n; i++) t.row.add(UNTOLD);
    return n;
  }

  int lose(int p) {
    Thing t = standing(p);
    if (t == null) return -2;
    int had = t.row == null ? 0 : 1;
    t.row = null;
    return had;
  }

  int spot(int p, int i, int from, int to, int eighths) {
    Thing t = standing(p);
    if (t == null || from < 0 || from > 2000 || to < 0 || to > 2000) return -2;
    if (eighths < -1 || eighths > 8) return -2;
    if (t.row == null) return -10;
    if (i < 0 || i >= t.row.size()) return -11;
    Spot spot = eighths == -1 ? UNTOLD : new Spot(true, from, to, eighths / 8.0f);
    return t.row.set(i, spot).told ? 1 : 0;
  }

  int carry(int p, int i, int other, int k, int n) {
    Thing s = standing(p);
    Thing t = standing(other);
    if (s == null || t == null) return -2;
    if (s.row == null || t.row == null) return -10;
    if (i < 0 || k < 0 || n < 0) return -11;
    if ((long) i + n > s.row.size() || (long) k + n > t.row.size()) return -11;
    List<Spot> before = new ArrayList<>(s.row.subList(i, i + n));
    for (int j = 0; j < n; j++) t.row.set(k + j, before.get(j));
    int told = 0;
    for (Spot spot : t.row) if (spot.told) told++;
    return told;
  }

  /** What a thing bears, place by place. */
  private float[] profile(Thing t) {
    float[] borne = new float[t.length];
    List<float[]> of = new ArrayList<>();
    for (Thing part : t.parts) of.add(profile(part));
    for (int x = 0; x < t.length; x++) {
      borne[x] = base(t, of, x);
      if (t.row != null) {
        for (Spot s : t.row) {
          if (s.told && s.from <= x && x <= s.to) borne[x] *= s.share;
        }
      }
    }
    return borne;
  }

  private float base(Thing t, List<float[]> of, int x) {
    float eighth = t.eighths * 0.125f;
    switch (t.kind) {
      case 0: return eighth;
      case 4: return eighth * 0.5f;
      case 5: return splicedBase(t, of, x);
      default:
        float sum = 0.0f;
        for (float[] part : of) sum += part[x * part.length / t.length];
        return sum * (t.kind == 1 ? 0.875f : t.kind == 2 ? 0.75f : 0.625f);
    }
  }

  private float splicedBase(Thing t, List<float[]> of, int x) {
    float[] first = of.get(0);
    float[] second = of.get(1);
    int at = x - first.length + t.over;
    if (at < 0) return first[x];
    if (x >= first.length) return at < second.length ? second[at] : 0.0f;
    return at < second.length ? Math.max(first[x], second[at]) : first[x];
  }

  double bears(int p, int x) {
    Thing t = standing(p);
    return t == null || x < 0 || x >= t.length ? -2 : profile(t)[x];
  }

  private int weakest(float[] borne) {
    int least = 0;
    for (int x = 0; x < borne.length; x++) if (borne[x] < borne[least]) least = x;
    return least;
  }

  private float leastOf(Thing t) {
    float[] borne = profile(t);
    return borne[weakest(borne)];
  }

  double least(int p) {
    Thing t = standing(p);
    return t == null ? -2 : leastOf(t);
  }

  int where(int p) {
    Thing t = standing(p);
    return t == null ? -2 : weakest(profile(t));
  }

  long grams(int p) {
    Thing t = standing(p);
    return t == null ? -2 : (long) (leastOf(t) * 1000.0f);
  }

  double rest(int p, int eighths) {
    Thing t = standing(p);
    if (t == null || eighths < 1 || eighths > 80000) return -2;
    return leastOf(t) % (eighths * 0.125f);
  }

  double left(int p, int thousandths) {
    Thing t = standing(p);
    if (t == null || thousandths < 1 || thousandths > 1000000) return -2;
    return (double) leastOf(t) % (thousandths / 1024.0);
  }

  long turned(int p, int eighths, int how) {
    Thing t = standing(p);
    if (t == null || eighths < 0 || eighths > 80000 || how < 0 || how > 12) return -1000000;
    double d = leastOf(t) - eighths * 0.125;
    float f = leastOf(t) - eighths * 0.125f;
    switch (how) {
      case 0: return (long) Math.floor(d);
      case 1: return (long) Math.ceil(d);
      case 2: return (long) Math.rint(d);
      case 3: return (long) Math.signum(d);
      case 4: return (long) (8 * Math.abs(d));
      case 5: return (long) (8 * Math.max(d, 0.25));
      case 6: return (long) (8 * Math.min(d, 0.25));
      case 7: return d < 0 ? -2 : 2;
      case 8: return (long) Math.signum(f);
      case 9: return (long) (8 * Math.abs(f));
      case 10: return (long) (8 * Math.max(f, 0.25f));
      case 11: return (long) (8 * Math.min(f, 0.25f));
      default: return f < 0 ? -2 : 2;
    }
  }

  int hang(int r, int p) {
    Thing t = thing(p);
    if (t == null || state(t) != 0) return -2;
    if (r < 0 || r > 5) return -11;
    if (on[r] != null) return -2;
    on[r] = t;
    return t.length;
  }

  int off(int r) {
    if (r < 0 || r > 5) return -11;
    if (on[r] == null) return -10;
    for (Want w : wants) if (w.at >= 0 && w.at / 10000 == r) return -2;
    int p = things.indexOf(on[r]);
    on[r] = null;
    return p;
  }

  int take(int r, int kind) {
    if (kind < 0 || kind > 5) return -2;
    if (r < 0 || r > 5) return -11;
    if (on[r] == null) return -10;
    String[] kinds = {"0", "01", "012", "0123", "04", "0125"};
    return kinds[on[r].kind].indexOf('0' + kind) >= 0 ? things.indexOf(on[r]) : -12;
  }

  int order(int length, int eighths) {
    if (length < 1 || length > 2000 || eighths < 0 || eighths > 800000 || wants.size() == 6) return -2;
    Want w = new Want();
    w.length = length;
    w.need = eighths * 0.125f;
    wants.add(w);
    return wants.size() - 1;
  }

  /** Place by place: what the orders cut from each reel leave; null where nothing hangs. */
  private boolean[][] taken() {
    boolean[][] taken = new boolean[6][];
    for (int r = 0; r < 6; r++) if (on[r] != null) taken[r] = new boolean[on[r].length];
    for (Want w : wants) if (w.at >= 0) mark(taken, w, w.at);
    return taken;
  }

  private void mark(boolean[][] taken, Want w, int at) {
    for (int x = at % 10000; x < at % 10000 + w.length; x++) taken[at / 10000][x] = true;
  }

  private float[][] profiles() {
    float[][] borne = new float[6][];
    for (int r = 0; r < 6; r++) if (on[r] != null) borne[r] = profile(on[r]);
    return borne;
  }

  private int fit(Want w, boolean[] some, boolean[][] taken, float[][] borne) {
    for (int r = 0; r < 6; r++) {
      if (!some[r] || on[r] == null) continue;
      for (int from = 0; from + w.length <= on[r].length; from++) {
        int x = from;
        while (x < from + w.length && !taken[r][x] && borne[r][x] >= w.need) x++;
        if (x == from + w.length) return 10000 * r + from;
      }
    }
    return -1;
  }

  int cut(int o) {
    if (o < 0 || o >= wants.size() || wants.get(o).at >= 0) return -2;
    boolean[] all = {true, true, true, true, true, true};
    wants.get(o).at = fit(wants.get(o), all, taken(), profiles());
    return wants.get(o).at;
  }

  int join(int o) {
    if (o < 0 || o >= wants.size() || wants.get(o).at < 0) return -2;
    int was = wants.get(o).at;
    wants.get(o).at = -1;
    return was;
  }

  private boolean begunReel(int r) {
    for (Want w : wants) if (w.at >= 0 && w.at / 10000 == r) return true;
    return false;
  }

  int begun() {
    int sum = 0;
    for (int r = 0; r < 6; r++) if (begunReel(r)) sum += on[r].length;
    return sum;
  }

  int fewest() {
    float[][] borne = profiles();
    int best = -1;
    for (int bits = 0; bits < 64; bits++) {
      int sum = 0;
      boolean[] some = new boolean[6];
      boolean may = true;
      for (int r = 0; r < 6; r++) {
        if ((bits >> r & 1) == 0) continue;
        some[r] = true;
        if (on[r] == null || begunReel(r)) may = false;
        else sum += on[r].length;
      }
      if (may && (best < 0 || sum < best) && allFit(some, borne)) best = sum;
    }
    return best;
  }

  private boolean allFit(boolean[] some, float[][] borne) {
    boolean[][] taken = taken();
    for (Want w : wants) {
      if (w.at >= 0) continue;
      int at = fit(w, some, taken, borne);
      if (at < 0) return false;
      mark(taken, w, at);
    }
    return true;
  }

  int stage(int ropes) {
    if (ropes < 0 || ropes > 8 || stages.size() == 10) return -2;
    stages.add(ropes);
    return stages.size();
  }

  int unstage() {
    return stages.isEmpty() ? -2 : stages.remove(stages.size() - 1);
  }

  private long fraction(int load, int count, int what) {
    BigInteger below = BigInteger.ONE;
    for (int k = 0; k < count; k++) below = below.multiply(BigInteger.valueOf(stages.get(k)));
    BigInteger above = BigInteger.valueOf(load);
    BigInteger by = above.gcd(below);
    return (what == 0 ? above : below).divide(by).longValueExact();
  }

  long pull(int load, int what) {
    if (stages.contains(0)) return -1;
    if (load < 0 || load > 1000000 || what < 0 || what > 1) return -2;
    return fraction(load, stages.size(), what);
  }

  long stress(int k, int load, int what) {
    if (load < 0 || load > 1000000 || what < 0 || what > 1 || k < 0 || k >= stages.size()) return -2;
    if (stages.subList(0, k + 1).contains(0)) return -1;
    return fraction(load, k + 1, what);
  }
}
