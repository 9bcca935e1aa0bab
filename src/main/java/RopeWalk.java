/**
 * A rope walk: yarns are laid into strands, ropes and cables, worn, cut from reels, and hung in a
 * tackle. What each call answers is told in the document, promise by promise.
 */
public final class RopeWalk {
  private static final int YARN = 0;
  private static final int STRAND = 1;
  private static final int ROPE = 2;
  private static final int CABLE = 3;
  private static final int TAPE = 4;
  private static final int SPLICE = 5;
  private static final int KINDS = 6;
  /** By kind: the kind that it is directly UNDER, -1 without one. */
  private static final int[] ABOVE = {-1, YARN, STRAND, ROPE, YARN, ROPE};

  private static final int NO_TWIST = 0;
  private static final int RIGHT = 1;
  private static final int LEFT = 2;

  private static final int FREE = 0;
  private static final int LAID = 1;
  private static final int HUNG = 2;
  private static final int GONE = 3;

  private static final int REFUSED = -2;
  private static final int NOTHING_THERE = -10;
  private static final int NO_SUCH_PLACE = -11;
  private static final int OTHER_KIND = -12;
  private static final int BELOW_ZERO = -13;
  private static final long NOT_TURNED = -1000000L;

  private static final int MOST_PIECES = 120;
  private static final int LONGEST = 2000;
  private static final int STRONGEST = 80000;
  private static final int MOST_PICKED = 9;
  private static final int MOST_TURNS = 400;
  private static final int MOST_SPOTS = 8;
  private static final int REELS = 6;
  private static final int REEL_STEP = 10000;
  private static final int MOST_ORDERS = 6;
  private static final int MOST_STAGES = 10;
  private static final int MOST_LOAD = 1000000;
  /** 120 pieces never reach this: a rope takes ten of them, so that splices nest ten deep. */
  private static final int DEEPEST = 40;

  private final Piece[] pieces = new Piece[MOST_PIECES];
  private int pieceCount;
  private final Piece[] picked = new Piece[MOST_PICKED];
  private int pickedCount;
  private final Reel[] reels = new Reel[REELS];
  private final Order[] orders = new Order[MOST_ORDERS];
  private int orderCount;
  private final int[] stages = new int[MOST_STAGES];
  private int stageCount;

  public RopeWalk() {
    for (int r = 0; r < REELS; r++) {
      reels[r] = new Reel();
    }
  }

  // ---- pieces ----

  public int yarn(int length, int eighths) {
    return spin(YARN, length, eighths);
  }

  public int tape(int length, int eighths) {
    return spin(TAPE, length, eighths);
  }

  private int spin(int kind, int length, int eighths) {
    if (length < 1 || length > LONGEST || eighths < 0 || eighths > STRONGEST) return REFUSED;
    if (pieceCount >= MOST_PIECES) return REFUSED;
    float strength = eighths * 0.125f;
    Piece piece = new Piece(pieceCount, kind, length, NO_TWIST, new Piece[0]);
    piece.strength = kind == TAPE ? strength * 0.5f : strength;
    piece.weight = kind == TAPE ? 2 * length : length;
    return keep(piece);
  }

  private int keep(Piece piece) {
    if (pieceCount >= MOST_PIECES) return REFUSED;
    pieces[pieceCount] = piece;
    pieceCount++;
    return piece.number;
  }

  /** Piece p, also when it is GONE; null when there is none. */
  private Piece pieceAt(int p) {
    if (p < 0 || p >= pieceCount || p >= MOST_PIECES) return null;
    return pieces[p];
  }

  private Piece pieceNotGone(int p) {
    Piece piece = pieceAt(p);
    return piece == null || piece.state == GONE ? null : piece;
  }

  private Piece freePiece(int p) {
    Piece piece = pieceAt(p);
    return piece == null || piece.state != FREE ? null : piece;
  }

  public int pick(int p) {
    Piece piece = freePiece(p);
    if (piece == null || isPicked(piece) || pickedCount >= MOST_PICKED) return REFUSED;
    picked[pickedCount] = piece;
    pickedCount++;
    return pickedCount;
  }

  private boolean isPicked(Piece piece) {
    for (int i = 0; i < pickedCount && i < MOST_PICKED; i++) {
      if (picked[i] == piece) return true;
    }
    return false;
  }

  public int drop() {
    int were = pickedCount;
    pickedCount = 0;
    return were;
  }

  public int lay(int kind, int twist, int turns) {
    if (kind < STRAND || kind > CABLE || twist < RIGHT || twist > LEFT) return REFUSED;
    if (turns < 0 || turns > MOST_TURNS || pieceCount >= MOST_PIECES) return REFUSED;
    if (!canHold(kind, pickedCount) || !pickedFit(kind, twist)) return REFUSED;
    int length = shortestPicked() * (1000 - turns) / 1000;
    if (length < 1) return REFUSED;
    Piece piece = new Piece(pieceCount, kind, length, twist, pickedParts());
    takeParts(piece);
    if (kind == CABLE) piece.weight += length;
    pickedCount = 0;
    return keep(piece);
  }

  private static boolean canHold(int kind, int parts) {
    if (kind == STRAND) return parts >= 2 && parts <= 9;
    if (kind == ROPE) return parts == 3 || parts == 4;
    return kind == CABLE && parts == 3;
  }

  private boolean pickedFit(int kind, int twist) {
    for (int i = 0; i < pickedCount && i < MOST_PICKED; i++) {
      Piece part = picked[i];
      if (part == null || part.state != FREE || !canBePart(kind, twist, part)) return false;
    }
    return true;
  }

  private static boolean canBePart(int kind, int twist, Piece part) {
    if (kind == STRAND) return part.kind == YARN || part.kind == TAPE;
    if (part.twist != otherTwist(twist)) return false;
    if (kind == ROPE) return part.kind == STRAND;
    return kind == CABLE && (part.kind == ROPE || part.kind == SPLICE);
  }

  private static int otherTwist(int twist) {
    return twist == RIGHT ? LEFT : RIGHT;
  }

  private int shortestPicked() {
    int shortest = LONGEST;
    for (int i = 0; i < pickedCount && i < MOST_PICKED; i++) {
      if (picked[i] != null) shortest = Math.min(shortest, picked[i].length);
    }
    return shortest;
  }

  private Piece[] pickedParts() {
    int count = Math.max(0, Math.min(pickedCount, MOST_PICKED));
    Piece[] parts = new Piece[count];
    for (int i = 0; i < count; i++) {
      parts[i] = picked[i];
    }
    return parts;
  }

  /** Lays the parts into the whole, which gets their weight. */
  private static void takeParts(Piece whole) {
    for (int k = 0; k < whole.parts.length; k++) {
      Piece part = whole.parts[k];
      if (part != null) {
        part.state = LAID;
        part.partOf = whole.number;
        whole.weight += part.weight;
      }
    }
  }

  public int splice(int a, int b, int over) {
    Piece first = freePiece(a);
    Piece second = freePiece(b);
    if (first == null || second == null || first == second) return REFUSED;
    if (!canBeSpliced(first) || !canBeSpliced(second) || first.twist != second.twist) {
      return REFUSED;
    }
    if (over < 1 || over > Math.min(first.length, second.length)) return REFUSED;
    int length = first.length + second.length - over;
    if (length > LONGEST || pieceCount >= MOST_PIECES) return REFUSED;
    Piece[] parts = new Piece[] {first, second};
    Piece piece = new Piece(pieceCount, SPLICE, length, first.twist, parts);
    piece.secondFrom = first.length - over;
    takeParts(piece);
    return keep(piece);
  }

  private static boolean canBeSpliced(Piece piece) {
    return piece.kind == ROPE || piece.kind == CABLE || piece.kind == SPLICE;
  }

  public int untwist(int p) {
    Piece piece = freePiece(p);
    if (piece == null || piece.parts.length == 0) return REFUSED;
    piece.state = GONE;
    for (int k = 0; k < piece.parts.length; k++) {
      Piece part = piece.parts[k];
      if (part != null) {
        part.state = FREE;
        part.partOf = -1;
      }
    }
    return piece.parts.length;
  }

  public int of(int p, int what) {
    Piece piece = pieceAt(p);
    if (piece == null) return REFUSED;
    switch (what) {
      case 0: return piece.kind;
      case 1: return piece.length;
      case 2: return piece.twist;
      case 3: return piece.state;
      case 4: return piece.parts.length;
      case 5: return piece.weight;
      case 6: return piece.partOf;
      case 7: return piece.spots;
      default: return REFUSED;
    }
  }

  public int part(int p, int k) {
    Piece piece = pieceAt(p);
    if (piece == null || k < 0 || k >= piece.parts.length) return REFUSED;
    Piece part = piece.parts[k];
    return part == null ? REFUSED : part.number;
  }

  public int count(int what) {
    switch (what) {
      case 0: return pieceCount;
      case 1: return piecesThatAre(FREE);
      case 2: return piecesThatAre(LAID);
      case 3: return piecesThatAre(HUNG);
      case 4: return piecesThatAre(GONE);
      case 5: return pickedCount;
      case 6: return orderCount;
      case 7: return cutOrders();
      case 8: return stageCount;
      default: return REFUSED;
    }
  }

  private int piecesThatAre(int state) {
    int found = 0;
    for (int p = 0; p < pieceCount && p < MOST_PIECES; p++) {
      if (pieces[p] != null && pieces[p].state == state) found++;
    }
    return found;
  }

  // ---- wear ----

  public int row(int p, int n) {
    Piece piece = pieceNotGone(p);
    if (piece == null || n > MOST_SPOTS) return REFUSED;
    if (n < 0) return BELOW_ZERO;
    piece.spots = n;
    for (int i = 0; i < n; i++) {
      piece.share[i] = -1;
    }
    return n;
  }

  public int lose(int p) {
    Piece piece = pieceNotGone(p);
    if (piece == null) return REFUSED;
    int had = piece.spots >= 0 ? 1 : 0;
    piece.spots = -1;
    return had;
  }

  public int spot(int p, int i, int from, int to, int eighths) {
    Piece piece = pieceNotGone(p);
    if (piece == null || from < 0 || from > LONGEST || to < 0 || to > LONGEST) return REFUSED;
    if (eighths < -1 || eighths > 8) return REFUSED;
    if (piece.spots < 0) return NOTHING_THERE;
    if (i < 0 || i >= piece.spots || i >= MOST_SPOTS) return NO_SUCH_PLACE;
    int wasTold = piece.share[i] >= 0 ? 1 : 0;
    piece.from[i] = from;
    piece.to[i] = to;
    piece.share[i] = eighths;
    return wasTold;
  }

  public int carry(int p, int i, int other, int k, int n) {
    Piece source = pieceNotGone(p);
    Piece target = pieceNotGone(other);
    if (source == null || target == null) return REFUSED;
    if (source.spots < 0 || target.spots < 0) return NOTHING_THERE;
    if (!hasSpots(source, i, n) || !hasSpots(target, k, n)) return NO_SUCH_PLACE;
    System.arraycopy(source.from, i, target.from, k, n);
    System.arraycopy(source.to, i, target.to, k, n);
    System.arraycopy(source.share, i, target.share, k, n);
    return toldSpots(target);
  }

  private static boolean hasSpots(Piece piece, int first, int n) {
    return first >= 0 && n >= 0 && piece.spots <= MOST_SPOTS && n <= piece.spots - first;
  }

  private static int toldSpots(Piece piece) {
    int told = 0;
    for (int i = 0; i < piece.spots && i < MOST_SPOTS; i++) {
      if (piece.share[i] >= 0) told++;
    }
    return told;
  }

  // ---- bearing ----

  private static float bearing(Piece piece, int place, int depth) {
    if (piece == null || depth > DEEPEST) return 0.0f;
    float borne = piece.strength;
    if (piece.kind == SPLICE) {
      borne = splicedBase(piece, place, depth);
    } else if (piece.parts.length > 0) {
      borne = laidBase(piece, place, depth);
    }
    return worn(piece, place, borne);
  }

  private static float laidBase(Piece piece, int place, int depth) {
    float sum = 0.0f;
    for (int k = 0; k < piece.parts.length; k++) {
      Piece part = piece.parts[k];
      if (part != null) sum = sum + bearing(part, placeOn(part, piece, place), depth + 1);
    }
    if (piece.kind == STRAND) return sum * 0.875f;
    return piece.kind == ROPE ? sum * 0.75f : sum * 0.625f;
  }

  private static int placeOn(Piece part, Piece whole, int place) {
    return whole.length < 1 ? 0 : place * part.length / whole.length;
  }

  private static float splicedBase(Piece piece, int place, int depth) {
    float most = 0.0f;
    for (int k = 0; k < piece.parts.length; k++) {
      Piece part = piece.parts[k];
      int at = place - splicedFrom(piece, k);
      if (part != null && at >= 0 && at < part.length) {
        float borne = bearing(part, at, depth + 1);
        most = borne > most ? borne : most;
      }
    }
    return most;
  }

  private static int splicedFrom(Piece piece, int k) {
    return k == 0 ? 0 : piece.secondFrom;
  }

  private static float worn(Piece piece, int place, float base) {
    float borne = base;
    for (int i = 0; i < piece.spots && i < MOST_SPOTS; i++) {
      if (piece.share[i] >= 0 && piece.from[i] <= place && place <= piece.to[i]) {
        borne = borne * (piece.share[i] * 0.125f);
      }
    }
    return borne;
  }

  /**
   * A place behind this one up to which the piece bears the same as here; at most its length. It
   * spares asking one by one the thousands of places between which nothing changes.
   */
  private static int steadyTo(Piece piece, int place, int depth) {
    if (piece == null || depth > DEEPEST) return place + 1;
    int until = piece.length;
    for (int k = 0; k < piece.parts.length; k++) {
      int partUntil = piece.kind == SPLICE
          ? splicedSteadyTo(piece, k, place, depth)
          : laidSteadyTo(piece, k, place, depth);
      until = Math.min(until, partUntil);
    }
    return rowSteadyTo(piece, place, until);
  }

  /** The first place of the whole that is on the first place of its part at which that changes. */
  private static int laidSteadyTo(Piece whole, int k, int place, int depth) {
    Piece part = whole.parts[k];
    if (part == null || part.length < 1) return place + 1;
    int until = steadyTo(part, placeOn(part, whole, place), depth + 1);
    return (until * whole.length + part.length - 1) / part.length;
  }

  private static int splicedSteadyTo(Piece whole, int k, int place, int depth) {
    Piece part = whole.parts[k];
    if (part == null) return place + 1;
    int from = splicedFrom(whole, k);
    if (place < from) return from;
    if (place - from >= part.length) return whole.length;
    return from + steadyTo(part, place - from, depth + 1);
  }

  private static int rowSteadyTo(Piece piece, int place, int most) {
    int until = most;
    for (int i = 0; i < piece.spots && i < MOST_SPOTS; i++) {
      if (piece.share[i] >= 0 && piece.from[i] <= piece.to[i]) {
        if (place < piece.from[i]) {
          until = Math.min(until, piece.from[i]);
        } else if (place <= piece.to[i]) {
          until = Math.min(until, piece.to[i] + 1);
        }
      }
    }
    return until;
  }

  private static int weakestPlace(Piece piece) {
    int weakest = 0;
    float least = bearing(piece, 0, 0);
    for (int x = 0; x < piece.length; x = Math.max(x + 1, steadyTo(piece, x, 0))) {
      float borne = bearing(piece, x, 0);
      if (borne < least) {
        least = borne;
        weakest = x;
      }
    }
    return weakest;
  }

  private static float leastBorne(Piece piece) {
    return bearing(piece, weakestPlace(piece), 0);
  }

  public double bears(int p, int x) {
    Piece piece = pieceNotGone(p);
    if (piece == null || x < 0 || x >= piece.length) return REFUSED;
    return bearing(piece, x, 0);
  }

  public double least(int p) {
    Piece piece = pieceNotGone(p);
    return piece == null ? REFUSED : leastBorne(piece);
  }

  public int where(int p) {
    Piece piece = pieceNotGone(p);
    return piece == null ? REFUSED : weakestPlace(piece);
  }

  public long grams(int p) {
    Piece piece = pieceNotGone(p);
    return piece == null ? REFUSED : (long) (leastBorne(piece) * 1000.0f);
  }

  public double rest(int p, int eighths) {
    Piece piece = pieceNotGone(p);
    if (piece == null || eighths < 1 || eighths > STRONGEST) return REFUSED;
    return remainder(leastBorne(piece), eighths * 0.125f);
  }

  public double left(int p, int thousandths) {
    Piece piece = pieceNotGone(p);
    if (piece == null || thousandths < 1 || thousandths > 1000000) return REFUSED;
    return remainder(leastBorne(piece), thousandths * 0.0009765625);
  }

  /**
   * Exact, as the whole has a float's 24 bits and stays below 2^21, and the step has 20 bits from
   * 2^-10 on: the quotient, if it is no whole number, is too far from one to be rounded up to it,
   * and neither product nor difference needs more than a double's 53 bits.
   */
  private static double remainder(double whole, double step) {
    if (!(step > 0.0)) return 0.0;
    long times = (long) (whole / step);
    return whole - times * step;
  }

  public long turned(int p, int eighths, int how) {
    Piece piece = pieceNotGone(p);
    if (piece == null || eighths < 0 || eighths > STRONGEST || how < 0 || how > 12) {
      return NOT_TURNED;
    }
    float least = leastBorne(piece);
    if (how >= 8) return turnedFloat(least - eighths * 0.125f, how - 5);
    return turnedDouble((double) least - eighths * 0.125, how);
  }

  private static long turnedDouble(double d, int how) {
    switch (how) {
      case 0: return notAbove(d);
      case 1: return -notAbove(-d);
      case 2: return d < 0.0 ? -nearest(-d) : nearest(d);
      case 3: return d < 0.0 ? -1L : d > 0.0 ? 1L : 0L;
      case 4: return (long) (8.0 * (d < 0.0 ? -d : d));
      case 5: return (long) (8.0 * (d > 0.25 ? d : 0.25));
      case 6: return (long) (8.0 * (d < 0.25 ? d : 0.25));
      default: return d < 0.0 ? -2L : 2L;
    }
  }

  private static long turnedFloat(float d, int how) {
    switch (how) {
      case 3: return d < 0.0f ? -1L : d > 0.0f ? 1L : 0L;
      case 4: return (long) (8.0f * (d < 0.0f ? -d : d));
      case 5: return (long) (8.0f * (d > 0.25f ? d : 0.25f));
      case 6: return (long) (8.0f * (d < 0.25f ? d : 0.25f));
      default: return d < 0.0f ? -2L : 2L;
    }
  }

  private static long notAbove(double d) {
    long whole = (long) d;
    return whole > d ? whole - 1 : whole;
  }

  /** The whole number nearest to d, which is not below 0; of two, the even one. */
  private static long nearest(double d) {
    long whole = (long) d;
    double more = d - whole;
    boolean up = more > 0.5 || (more == 0.5 && (whole & 1L) == 1L);
    return up ? whole + 1 : whole;
  }

  // ---- reels and orders ----

  private static boolean isReel(int r) {
    return r >= 0 && r < REELS;
  }

  public int hang(int r, int p) {
    Piece piece = freePiece(p);
    if (piece == null) return REFUSED;
    if (!isReel(r)) return NO_SUCH_PLACE;
    if (reels[r].piece != null) return REFUSED;
    reels[r].piece = piece;
    piece.state = HUNG;
    return piece.length;
  }

  public int off(int r) {
    if (!isReel(r)) return NO_SUCH_PLACE;
    Piece piece = reels[r].piece;
    if (piece == null) return NOTHING_THERE;
    if (isCutFrom(r)) return REFUSED;
    reels[r].piece = null;
    piece.state = FREE;
    return piece.number;
  }

  public int take(int r, int kind) {
    if (kind < 0 || kind >= KINDS) return REFUSED;
    if (!isReel(r)) return NO_SUCH_PLACE;
    Piece piece = reels[r].piece;
    if (piece == null) return NOTHING_THERE;
    return isOfKind(piece, kind) ? piece.number : OTHER_KIND;
  }

  private static boolean isOfKind(Piece piece, int asked) {
    int kind = piece.kind;
    for (int i = 0; i < KINDS && kind >= 0 && kind < KINDS; i++) {
      if (kind == asked) return true;
      kind = ABOVE[kind];
    }
    return false;
  }

  public int order(int length, int eighths) {
    if (length < 1 || length > LONGEST || eighths < 0 || eighths > 800000) return REFUSED;
    if (orderCount >= MOST_ORDERS) return REFUSED;
    orders[orderCount] = new Order(length, eighths * 0.125f);
    orderCount++;
    return orderCount - 1;
  }

  private Order orderAt(int o) {
    if (o < 0 || o >= orderCount || o >= MOST_ORDERS) return null;
    return orders[o];
  }

  public int cut(int o) {
    Order order = orderAt(o);
    if (order == null || order.reel >= 0) return REFUSED;
    measureReels();
    startTrial();
    int fit = firstFit(order, (1 << REELS) - 1);
    if (fit < 0) return -1;
    order.reel = fit / REEL_STEP;
    order.place = fit % REEL_STEP;
    return fit;
  }

  public int join(int o) {
    Order order = orderAt(o);
    if (order == null || order.reel < 0) return REFUSED;
    int was = REEL_STEP * order.reel + order.place;
    order.reel = -1;
    return was;
  }

  public int begun() {
    int length = 0;
    for (int r = 0; r < REELS; r++) {
      if (isCutFrom(r)) length += lengthOn(r);
    }
    return length;
  }

  public int fewest() {
    if (cutOrders() == orderCount) return 0;
    measureReels();
    int unbegun = unbegunReels();
    int fewest = -1;
    for (int some = 1; some < 1 << REELS; some++) {
      if ((some & ~unbegun) == 0) {
        int length = lengthTogether(some);
        if ((fewest < 0 || length < fewest) && allFit(some)) fewest = length;
      }
    }
    return fewest;
  }

  /** Reels are told as bits: those with a piece from which no order is cut. */
  private int unbegunReels() {
    int bits = 0;
    for (int r = 0; r < REELS; r++) {
      if (reels[r].piece != null && !isCutFrom(r)) bits |= 1 << r;
    }
    return bits;
  }

  private int lengthTogether(int some) {
    int length = 0;
    for (int r = 0; r < REELS; r++) {
      if ((some >> r & 1) == 1) length += lengthOn(r);
    }
    return length;
  }

  private int lengthOn(int r) {
    return isReel(r) && reels[r].piece != null ? reels[r].piece.length : 0;
  }

  private boolean isCutFrom(int r) {
    for (int o = 0; o < orderCount && o < MOST_ORDERS; o++) {
      if (orders[o] != null && orders[o].reel == r) return true;
    }
    return false;
  }

  private int cutOrders() {
    int found = 0;
    for (int o = 0; o < orderCount && o < MOST_ORDERS; o++) {
      if (orders[o] != null && orders[o].reel >= 0) found++;
    }
    return found;
  }

  private void startTrial() {
    for (int o = 0; o < orderCount && o < MOST_ORDERS; o++) {
      if (orders[o] != null) {
        orders[o].trialReel = orders[o].reel;
        orders[o].trialPlace = orders[o].place;
      }
    }
  }

  /** Whether all orders that aren't cut find a fit in some reels, one behind the other. */
  private boolean allFit(int some) {
    startTrial();
    for (int o = 0; o < orderCount && o < MOST_ORDERS; o++) {
      Order order = orders[o];
      if (order != null && order.reel < 0) {
        int fit = firstFit(order, some);
        if (fit < 0) return false;
        order.trialReel = fit / REEL_STEP;
        order.trialPlace = fit % REEL_STEP;
      }
    }
    return true;
  }

  /** Where the order fits first in some reels, beside the stretches on trial; -1 without a fit. */
  private int firstFit(Order order, int some) {
    for (int r = 0; r < REELS; r++) {
      if ((some >> r & 1) == 1) {
        int place = fitOn(r, order);
        if (place >= 0) return REEL_STEP * r + place;
      }
    }
    return -1;
  }

  private int fitOn(int r, Order order) {
    if (!isReel(r)) return -1;
    Reel reel = reels[r];
    int start = 0;
    for (int i = 0; i < reel.stretches && i < LONGEST; i++) {
      if (reel.borne[i] < order.need) {
        start = Math.max(start, reel.ends[i]);
      } else {
        start = besideTrials(r, start, order.length);
        if (start + order.length <= reel.ends[i]) return start;
      }
    }
    return -1;
  }

  /** The first place from start on where this length meets no stretch that is cut on trial. */
  private int besideTrials(int r, int start, int length) {
    int from = start;
    // Behind a stretch the place stays behind it: each of them moves it once at most.
    for (int times = 0; times < MOST_ORDERS; times++) {
      for (int o = 0; o < orderCount && o < MOST_ORDERS; o++) {
        Order other = orders[o];
        if (other != null && other.trialReel == r && from < other.trialPlace + other.length
            && other.trialPlace < from + length) {
          from = other.trialPlace + other.length;
        }
      }
    }
    return from;
  }

  private void measureReels() {
    for (int r = 0; r < REELS; r++) {
      measure(reels[r]);
    }
  }

  private static void measure(Reel reel) {
    Piece piece = reel.piece;
    int place = 0;
    reel.stretches = 0;
    for (int i = 0; piece != null && place < piece.length && i < LONGEST; i++) {
      reel.borne[i] = bearing(piece, place, 0);
      place = Math.max(place + 1, steadyTo(piece, place, 0));
      reel.ends[i] = place;
      reel.stretches = i + 1;
    }
  }

  // ---- the tackle ----

  public int stage(int ropes) {
    if (ropes < 0 || ropes > 8 || stageCount >= MOST_STAGES) return REFUSED;
    stages[stageCount] = ropes;
    stageCount++;
    return stageCount;
  }

  public int unstage() {
    if (stageCount < 1 || stageCount > MOST_STAGES) return REFUSED;
    stageCount--;
    return stages[stageCount];
  }

  public long pull(int load, int what) {
    long ropes = ropesOfFirst(stageCount);
    if (ropes == 0) return -1;
    if (!canAskLoad(load, what)) return REFUSED;
    return lowestTerms(load, ropes, what);
  }

  public long stress(int k, int load, int what) {
    if (!canAskLoad(load, what) || k < 0 || k >= stageCount) return REFUSED;
    long ropes = ropesOfFirst(k + 1);
    if (ropes == 0) return -1;
    return lowestTerms(load, ropes, what);
  }

  private static boolean canAskLoad(int load, int what) {
    return load >= 0 && load <= MOST_LOAD && (what == 0 || what == 1);
  }

  private long ropesOfFirst(int count) {
    long ropes = 1;
    for (int k = 0; k < count && k < MOST_STAGES; k++) {
      ropes = ropes * stages[k];
    }
    return ropes;
  }

  private static long lowestTerms(long above, long below, int what) {
    long divisor = greatestDivisor(above, below);
    if (divisor == 0) return REFUSED;
    return what == 0 ? above / divisor : below / divisor;
  }

  private static long greatestDivisor(long a, long b) {
    long greater = a;
    long lesser = b;
    for (int i = 0; i < 100 && lesser != 0; i++) {
      long over = greater % lesser;
      greater = lesser;
      lesser = over;
    }
    return greater;
  }

  // ---- what is kept ----

  private static final class Piece {
    private final int number;
    private final int kind;
    private final int length;
    private final int twist;
    private final Piece[] parts;
    /** What a yarn or tape bears where it isn't worn. */
    private float strength;
    /** Of a splice: the place at which its second part begins. */
    private int secondFrom;
    private int weight;
    private int state = FREE;
    private int partOf = -1;
    /** How many spots its row has; -1 without a row. */
    private int spots = -1;
    private final int[] from = new int[MOST_SPOTS];
    private final int[] to = new int[MOST_SPOTS];
    /** In eighths; -1 while the spot is untold. */
    private final int[] share = new int[MOST_SPOTS];

    private Piece(int number, int kind, int length, int twist, Piece[] parts) {
      this.number = number;
      this.kind = kind;
      this.length = length;
      this.twist = twist;
      this.parts = parts;
    }
  }

  private static final class Reel {
    private Piece piece;
    /** As it was last measured: stretches of places, what the piece bears there, and their ends. */
    private int stretches;
    private final float[] borne = new float[LONGEST];
    private final int[] ends = new int[LONGEST];
  }

  private static final class Order {
    private final int length;
    private final float need;
    /** The reel that it is cut from; -1 while it isn't cut. */
    private int reel = -1;
    private int place;
    /** The same while a fit is looked for, which may leave the order uncut. */
    private int trialReel = -1;
    private int trialPlace;

    private Order(int length, float need) {
      this.length = length;
      this.need = need;
    }
  }
}
