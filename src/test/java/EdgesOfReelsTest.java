/** The edges that promises 23 to 30 name, one test for each of their sentences. */
public final class EdgesOfReelsTest {
  private static final int[] NO_REELS = {Integer.MIN_VALUE, -1, 6, 7, Integer.MAX_VALUE};

  private static final Due due = new Due();

  public static void main(String[] args) {
    hangNoPiece();
    hangNotFree();
    hangNoReel();
    hangOnFull();
    hangAskedFirst();
    hangLengths();
    hangPicked();
    offNoReel();
    offNothing();
    offCut();
    offAnswers();
    takeKinds();
    takeNoReel();
    takeNothing();
    takeUnder();
    takeAskedFirst();
    orderLengths();
    orderEighths();
    orderMost();
    cutNoOrder();
    cutAlready();
    cutNowhere();
    cutNoReels();
    cutFirstReel();
    cutExactLength();
    cutJustAsMuch();
    cutBetweenWorn();
    cutBesideOthers();
    cutGaps();
    cutBehindWornAndOthers();
    cutOfOtherReels();
    cutOnLastPlaces();
    cutNeedsNothing();
    cutInParts();
    cutStays();
    cutAfterAnotherPiece();
    joinNoOrder();
    joinNotCut();
    joinAnswers();
    begunLengths();
    fewestNoOrders();
    fewestNoReels();
    fewestNotBegun();
    fewestExact();
    fewestLeast();
    fewestInTheirOrder();
    fewestAllReels();
    fewestCutsNothing();
    fewestAsCutWould();
    due.end();
  }

  /** Yarns of these lengths that bear 8, on the reels from 0 on; a length of 0 leaves a reel empty. */
  private static RopeWalk reels(int... lengths) {
    RopeWalk x = new RopeWalk();
    for (int r = 0; r < lengths.length; r++) {
      if (lengths[r] > 0) x.hang(r, x.yarn(lengths[r], 64));
    }
    return x;
  }

  private static int cutNew(RopeWalk x, int length, int eighths) {
    return x.cut(x.order(length, eighths));
  }

  // ---- 23 ----

  private static void hangNoPiece() {
    due.about("23 there is no such piece");
    RopeWalk x = new RopeWalk();
    due.is("none is there", x.hang(0, 0), -2);
    x.yarn(5, 8);
    for (int p : new int[] {Integer.MIN_VALUE, -1, 1, 119, 120, Integer.MAX_VALUE}) {
      for (int r = 0; r < 6; r++) due.is("hang(" + r + ", " + p + ")", x.hang(r, p), -2);
    }
    due.is("hang(0, 0)", x.hang(0, 0), 5);
    RopeWalk y = new RopeWalk();
    for (int p = 0; p < 120; p++) y.yarn(1 + p, 8);
    due.is("the last of 120", y.hang(5, 119), 120);
    due.is("behind it", y.hang(4, 120), -2);
  }

  private static void hangNotFree() {
    due.about("23 or it isn't free");
    RopeWalk x = new RopeWalk();
    int s = Make.strand(x, 5, 8, Make.LEFT);
    int g = Make.gone(x, 5, 8);
    due.is("laid", x.hang(0, 0), -2);
    due.is("gone", x.hang(0, g), -2);
    due.is("free", x.hang(0, s), 5);
    for (int r = 0; r < 6; r++) due.is("hung, on " + r, x.hang(r, s), -2);
    due.is("count(3)", x.count(3), 1);
    x.off(0);
    due.is("free again", x.hang(5, s), 5);
  }

  private static void hangNoReel() {
    due.about("23 -11 when there is no such reel");
    RopeWalk x = new RopeWalk();
    x.yarn(5, 8);
    for (int r : NO_REELS) due.is("hang(" + r + ", 0)", x.hang(r, 0), -11);
    due.is("free still", x.of(0, 3), 0);
    due.is("hang(5, 0)", x.hang(5, 0), 5);
    x.off(5);
    due.is("hang(0, 0)", x.hang(0, 0), 5);
  }

  private static void hangOnFull() {
    due.about("23 -2 when something is on it");
    RopeWalk x = new RopeWalk();
    for (int p = 0; p < 7; p++) x.yarn(10 + p, 8);
    for (int r = 0; r < 6; r++) {
      due.is("hang(" + r + ", .)", x.hang(r, r), 10 + r);
      for (int q = 0; q <= r; q++) due.is("full, " + q, x.hang(q, 6), -2);
    }
    due.is("free still", x.of(6, 3), 0);
    for (int r = 0; r < 6; r++) due.is("on it still", x.take(r, 0), r);
    x.off(3);
    due.is("empty again", x.hang(3, 6), 16);
  }

  private static void hangAskedFirst() {
    due.about("23 what is asked first");
    RopeWalk x = new RopeWalk();
    int s = Make.strand(x, 5, 8, Make.LEFT);
    int g = Make.gone(x, 5, 8);
    int y = x.yarn(5, 8);
    x.hang(0, y);
    for (int r : NO_REELS) {
      for (int p : new int[] {-1, 7, 120, 0, g, y}) due.is("hang(" + r + ", " + p + ")", x.hang(r, p), -2);
      due.is("hang(" + r + ", s)", x.hang(r, s), -11);
    }
    due.is("laid, on a full one", x.hang(0, 0), -2);
    due.is("free, on a full one", x.hang(0, s), -2);
  }

  private static void hangLengths() {
    due.about("23 its length");
    RopeWalk x = new RopeWalk();
    int[] all = Make.eachKind(x, 13, 8, Make.LEFT);
    for (int kind = 0; kind < 6; kind++) {
      due.is("kind " + kind, x.hang(kind, all[kind]), 13);
      due.is("hung", x.of(all[kind], 3), 2);
    }
    RopeWalk y = reels(1, 2000);
    y.off(0);
    y.off(1);
    due.is("of length 1", y.hang(0, 0), 1);
    due.is("of length 2000", y.hang(1, 1), 2000);
  }

  private static void hangPicked() {
    due.about("23 a piece that is picked is free");
    RopeWalk x = new RopeWalk();
    x.yarn(5, 8);
    x.pick(0);
    due.is("hang(0, 0)", x.hang(0, 0), 5);
    due.is("picked still", x.count(5), 1);
  }

  // ---- 24 ----

  private static void offNoReel() {
    due.about("24 -11 when there is no such reel");
    RopeWalk x = reels(9, 9, 9, 9, 9, 9);
    for (int r : NO_REELS) due.is("off(" + r + ")", x.off(r), -11);
    due.is("count(3)", x.count(3), 6);
    due.is("off(0)", x.off(0), 0);
    due.is("off(5)", x.off(5), 5);
  }

  private static void offNothing() {
    due.about("24 -10 when nothing is on it");
    RopeWalk x = reels(9, 0, 9, 0, 0, 9);
    int[] want = {0, -10, 1, -10, -10, 2};
    for (int r = 0; r < 6; r++) due.is("off(" + r + ")", x.off(r), want[r]);
    for (int r = 0; r < 6; r++) due.is("off(" + r + ") again", x.off(r), -10);
  }

  private static void offCut() {
    due.about("24 -2 when an order is cut from it");
    RopeWalk x = reels(20, 20);
    for (int o = 0; o < 4; o++) cutNew(x, 10, 64);
    for (int o = 0; o < 4; o++) {
      due.is("off(0)", x.off(0), o < 2 ? -2 : 0);
      due.is("off(1)", x.off(1), -2);
      if (o >= 2) x.hang(0, 0);
      due.is("join(" + o + ")", x.join(o), 10000 * (o / 2) + 10 * (o % 2));
    }
    due.is("off(1), none is cut", x.off(1), 1);
    due.is("off(0)", x.off(0), 0);
    for (int at = 0; at < 6; at++) {
      RopeWalk y = reels(60);
      for (int o = 0; o < 6; o++) cutNew(y, 10, 64);
      for (int o = 0; o < 6; o++) if (o != at) y.join(o);
      due.is("but " + at, y.off(0), -2);
      y.join(at);
      due.is("none", y.off(0), 0);
    }
  }

  private static void offAnswers() {
    due.about("24 comes off, and is free: its number");
    RopeWalk x = reels(1, 2, 3, 4, 5, 6);
    for (int r = 5; r >= 0; r--) {
      due.is("off(" + r + ")", x.off(r), r);
      due.is("free", x.of(r, 3), 0);
      due.is("take(" + r + ", 0)", x.take(r, 0), -10);
    }
    due.is("count(3)", x.count(3), 0);
  }

  // ---- 25 ----

  private static void takeKinds() {
    due.about("25 -2 for another kind");
    RopeWalk x = reels(9);
    for (int kind : new int[] {Integer.MIN_VALUE, -1, 6, 7, Integer.MAX_VALUE}) {
      due.is("take(0, " + kind + ")", x.take(0, kind), -2);
    }
    due.is("take(0, 0)", x.take(0, 0), 0);
    for (int kind = 1; kind <= 5; kind++) due.is("take(0, " + kind + ")", x.take(0, kind), -12);
  }

  private static void takeNoReel() {
    due.about("25 -11 when there is no such reel");
    RopeWalk x = reels(9, 9, 9, 9, 9, 9);
    for (int r : NO_REELS) {
      for (int kind = 0; kind <= 5; kind++) due.is("take(" + r + ", " + kind + ")", x.take(r, kind), -11);
    }
    due.is("take(0, 0)", x.take(0, 0), 0);
    due.is("take(5, 0)", x.take(5, 0), 5);
  }

  private static void takeNothing() {
    due.about("25 -10 when nothing is on it");
    RopeWalk x = reels(0, 9, 9, 9, 9);
    for (int kind = 0; kind <= 5; kind++) {
      due.is("take(0, " + kind + ")", x.take(0, kind), -10);
      due.is("take(5, " + kind + ")", x.take(5, kind), -10);
    }
    due.is("take(1, 0)", x.take(1, 0), 0);
    x.off(1);
    due.is("off", x.take(1, 0), -10);
  }

  private static void takeUnder() {
    due.about("25 a piece whose kind is under it is one, too; -12 when it is no such piece");
    RopeWalk x = new RopeWalk();
    int[] all = Make.eachKind(x, 9, 9, Make.LEFT);
    for (int kind = 0; kind < 6; kind++) x.hang(kind, all[kind]);
    String[] is = {"X.....", "XX....", "XXX...", "XXXX..", "X...X.", "XXX..X"};
    for (int r = 0; r < 6; r++) {
      for (int kind = 0; kind < 6; kind++) {
        due.is("take(" + r + ", " + kind + ")", x.take(r, kind), is[r].charAt(kind) == 'X' ? all[r] : -12);
      }
    }
    due.is("all are on their reels", x.count(3), 6);
  }

  private static void takeAskedFirst() {
    due.about("25 what is asked first");
    RopeWalk x = reels(9);
    for (int kind : new int[] {-1, 6}) {
      for (int r : NO_REELS) due.is("no kind, no reel", x.take(r, kind), -2);
      due.is("no kind, nothing on it", x.take(1, kind), -2);
      due.is("no kind", x.take(0, kind), -2);
    }
  }

  // ---- 26 ----

  private static void orderLengths() {
    due.about("26 the length is not 1 .. 2000");
    RopeWalk x = reels(2000);
    int made = 0;
    for (int l : new int[] {Integer.MIN_VALUE, -1, 0, 1, 2000, 2001, Integer.MAX_VALUE}) {
      boolean may = l >= 1 && l <= 2000;
      due.is("order(" + l + ", 0)", x.order(l, 0), may ? made++ : -2);
      due.is("count(6)", x.count(6), made);
    }
    due.is("of 2000", x.cut(1), 0);
    due.is("of 1, nothing is left", x.cut(0), -1);
    x.join(1);
    due.is("of 1", x.cut(0), 0);
    due.is("of 2000, 1999 are left", x.cut(1), -1);
  }

  private static void orderEighths() {
    due.about("26 the eighths not 0 .. 800000");
    RopeWalk x = new RopeWalk();
    int made = 0;
    for (int e : new int[] {Integer.MIN_VALUE, -1, 0, 1, 80001, 800000, 800001, Integer.MAX_VALUE}) {
      boolean may = e >= 0 && e <= 800000;
      due.is("order(5, " + e + ")", x.order(5, e), may ? made++ : -2);
      due.is("count(6)", x.count(6), made);
    }
    due.is("both wrong", x.order(0, -1), -2);
    // A rope of three strands of two such yarns bears 39375; one of four strands of nine 236250.
    int r = Make.rope(x, 5, 80000, Make.LEFT);
    x.hang(0, r);
    due.is("100000 is too much", x.cut(3), -1);
    RopeWalk y = new RopeWalk();
    int[] strands = new int[4];
    for (int s = 0; s < 4; s++) {
      int[] yarns = new int[9];
      for (int k = 0; k < 9; k++) yarns[k] = y.yarn(5, 80000);
      strands[s] = Make.lay(y, Make.STRAND, Make.LEFT, 0, yarns);
    }
    y.hang(0, Make.lay(y, Make.ROPE, Make.RIGHT, 0, strands));
    due.is("100000 of 236250", cutNew(y, 5, 800000), 0);
  }

  private static void orderMost() {
    due.about("26 or there are 6");
    RopeWalk x = new RopeWalk();
    for (int o = 0; o < 6; o++) {
      due.is("order()", x.order(1, 1), o);
      due.is("refused, its number isn't used", x.order(0, 1), -2);
    }
    due.is("the seventh", x.order(1, 1), -2);
    due.is("the seventh, wrong as well", x.order(2001, 1), -2);
    due.is("count(6)", x.count(6), 6);
  }

  // ---- 27 ----

  private static void cutNoOrder() {
    due.about("27 there is no such order");
    RopeWalk x = reels(100);
    for (int o = 0; o <= 6; o++) {
      for (int wrong : new int[] {Integer.MIN_VALUE, -1, o, 6, Integer.MAX_VALUE}) {
        due.is("cut(" + wrong + ")", x.cut(wrong), -2);
        due.is("join(" + wrong + ")", x.join(wrong), -2);
      }
      x.order(5, 5);
    }
    due.is("cut(5)", x.cut(5), 0);
  }

  private static void cutAlready() {
    due.about("27 or it is cut");
    RopeWalk x = reels(100);
    for (int o = 0; o < 6; o++) {
      due.is("cut", cutNew(x, 5, 5), 5 * o);
      for (int q = 0; q <= o; q++) due.is("again, " + q, x.cut(q), -2);
      due.is("count(7)", x.count(7), o + 1);
    }
    x.join(2);
    due.is("joined", x.cut(2), 10);
    due.is("again", x.cut(2), -2);
  }

  private static void cutNowhere() {
    due.about("27 -1 when it fits nowhere");
    RopeWalk x = reels(10, 20, 30, 20, 10, 5);
    due.is("too long", cutNew(x, 31, 64), -1);
    due.is("too much", cutNew(x, 1, 65), -1);
    due.is("count(7)", x.count(7), 0);
    due.is("begun()", x.begun(), 0);
    due.is("join(0)", x.join(0), -2);
    due.is("just as long, just as much", cutNew(x, 30, 64), 20000);
    due.is("as long again", cutNew(x, 21, 64), -1);
    due.is("less", cutNew(x, 20, 64), 10000);
  }

  private static void cutNoReels() {
    due.about("27 when nothing is on any reel");
    RopeWalk x = new RopeWalk();
    x.yarn(5, 8);
    due.is("a piece that isn't hung", cutNew(x, 1, 0), -1);
    x.hang(5, 0);
    due.is("hung", x.cut(0), 50000);
    x.join(0);
    x.off(5);
    due.is("off", x.cut(0), -1);
    x.hang(0, 0);
    due.is("on another one", x.cut(0), 0);
  }

  private static void cutFirstReel() {
    due.about("27 the first of them by number");
    for (int first = 0; first < 6; first++) {
      int[] lengths = {9, 9, 9, 9, 9, 9};
      for (int r = first; r < 6; r++) lengths[r] = 10 + (5 - r);
      due.is("the first is " + first, cutNew(reels(lengths), 10, 64), 10000 * first);
      for (int r = 0; r < first; r++) lengths[r] = 0;
      due.is("those before it are empty", cutNew(reels(lengths), 10, 64), 10000 * first);
    }
    RopeWalk x = reels(5, 5, 5, 5, 5, 5);
    for (int o = 0; o < 6; o++) due.is("one by one", cutNew(x, 5, 0), 10000 * o);
  }

  private static void cutExactLength() {
    due.about("27 so many places are on the piece");
    for (int length : new int[] {1, 2, 1999, 2000}) {
      RopeWalk x = reels(length);
      due.is("one more", length < 2000 ? cutNew(x, length + 1, 64) : -1, -1);
      due.is("all of it", cutNew(x, length, 64), 0);
      due.is("nothing is left", cutNew(x, 1, 0), -1);
    }
  }

  private static void cutJustAsMuch() {
    due.about("27 at each it bears as much as must be, or more");
    for (int e : new int[] {0, 1, 2, 63, 64, 79999, 80000}) {
      RopeWalk x = new RopeWalk();
      x.hang(3, x.yarn(10, e));
      due.is("an eighth more than " + e, cutNew(x, 10, e + 1), -1);
      due.is("just " + e, cutNew(x, 10, e), 30000);
      x.join(1);
      if (e > 0) due.is("an eighth less than " + e, cutNew(x, 10, e - 1), 30000);
    }
    RopeWalk y = new RopeWalk();
    y.yarn(4, 53261);
    y.row(0, 4);
    int[] shares = {3, 3, 5, 7};
    for (int i = 0; i < 4; i++) y.spot(0, i, 0, 3, shares[i]);
    y.hang(0, 0);
    due.is("the greatest float below 512", cutNew(y, 4, 4096), -1);
    due.is("511.875", cutNew(y, 4, 4095), 0);
  }

  private static void cutBetweenWorn() {
    due.about("27 past worn places");
    int[][] want = {{0, 0, 19, 1}, {0, 0, 20, -1}, {0, 4, 15, 5}, {0, 4, 16, -1}, {19, 19, 19, 0}, {19, 19, 20, -1},
        {9, 9, 9, 0}, {9, 9, 10, 10}, {9, 9, 11, -1}, {10, 10, 10, 0}, {10, 10, 11, -1}, {5, 14, 5, 0}, {5, 14, 6, -1},
        {5, 13, 6, 14}, {0, 19, 1, -1}, {0, 2000, 1, -1}, {20, 2000, 20, 0}, {19, 2000, 19, 0}, {1, 0, 20, 0}};
    for (int[] w : want) {
      RopeWalk x = new RopeWalk();
      x.hang(0, Make.wornYarn(x, 20, 64, w[0], w[1], 7));
      String told = w[2] + " past " + w[0] + " to " + w[1];
      due.is(told, cutNew(x, w[2], 57), w[3]);
      due.is(told + ", which bears as much", cutNew(reelWorn(w[0], w[1]), w[2], 56), 0);
    }
  }

  private static RopeWalk reelWorn(int from, int to) {
    RopeWalk x = new RopeWalk();
    x.hang(0, Make.wornYarn(x, 20, 64, from, to, 7));
    return x;
  }

  private static void cutBesideOthers() {
    due.about("27 none is in the stretch of another cut order");
    RopeWalk x = reels(30);
    due.is("the first", cutNew(x, 10, 0), 0);
    due.is("the second begins where it ends", cutNew(x, 10, 0), 10);
    due.is("the third", cutNew(x, 10, 0), 20);
    due.is("all is taken", cutNew(x, 1, 0), -1);
    x.join(1);
    due.is("one too many", cutNew(x, 11, 0), -1);
    due.is("one that begins and ends beside others", x.cut(1), 10);
    x.join(0);
    due.is("at the beginning", x.cut(3), 0);
    due.is("behind it", x.cut(0), -1);
    x.join(3);
    x.join(2);
    due.is("at the beginning again", x.cut(0), 0);
    due.is("at the end", x.cut(2), 20);
  }

  private static void cutGaps() {
    due.about("27 the least place: gaps between others");
    for (int gap = 1; gap <= 5; gap++) {
      RopeWalk x = reels(100);
      due.is("before it", cutNew(x, 10, 0), 0);
      due.is("what will be free", cutNew(x, gap, 0), 10);
      due.is("behind it", cutNew(x, 20, 0), 10 + gap);
      x.join(1);
      due.is("one longer than the gap", cutNew(x, gap + 1, 0), 30 + gap);
      due.is("as long as the gap", cutNew(x, gap, 0), 10);
      x.join(0);
      due.is("the first gap", cutNew(x, 10, 0), 0);
    }
    RopeWalk y = reels(60);
    for (int o = 0; o < 6; o++) cutNew(y, 10, 0);
    y.join(4);
    y.join(1);
    due.is("the lesser of two", y.cut(4), 10);
    due.is("the other one", y.cut(1), 40);
    for (int o : new int[] {5, 3, 2, 4, 0}) y.join(o);
    int[] want = {0, 10, 20, 30, 50};
    int[] orders = {5, 3, 2, 4, 0};
    for (int n = 0; n < 5; n++) due.is("anew", y.cut(orders[n]), want[n]);
  }

  private static void cutBehindWornAndOthers() {
    due.about("27 past others and worn places at once");
    RopeWalk x = new RopeWalk();
    int y = Make.wornYarn(x, 40, 64, 12, 13, 0);
    x.hang(2, y);
    due.is("before the worn ones", cutNew(x, 10, 1), 20000);
    due.is("two are left before them", cutNew(x, 2, 1), 20010);
    due.is("behind them", cutNew(x, 10, 1), 20014);
    x.row(y, 2);
    x.spot(y, 0, 26, 26, 0);
    due.is("the other ones are worn no more, but taken", cutNew(x, 3, 1), 20027);
    due.is("12 and 13", cutNew(x, 2, 1), 20012);
    x.spot(y, 1, 12, 13, 0);
    due.is("24 and 25", cutNew(x, 2, 1), 20024);
    for (int o = 0; o < 6; o++) x.join(o);
    due.is("an order that was over worn places", x.cut(0), 20000);
    due.is("one past both", x.cut(2), 20014);
    x.spot(y, 1, 13, 14, 0);
    due.is("2 before the worn ones", x.cut(1), 20010);
    due.is("1 before them is too few", x.cut(4), 20024);
  }

  private static void cutOfOtherReels() {
    due.about("27 a stretch of another reel is not in the way");
    RopeWalk x = reels(10, 12, 14);
    due.is("on the first", cutNew(x, 9, 0), 0);
    due.is("on the second", cutNew(x, 11, 0), 10000);
    due.is("on the third", cutNew(x, 13, 0), 20000);
    due.is("what is left of the first", cutNew(x, 1, 0), 9);
    due.is("of the second", cutNew(x, 1, 0), 10011);
    due.is("of the third", cutNew(x, 1, 0), 20013);
  }

  private static void cutOnLastPlaces() {
    due.about("27 10000 times the reel, and the place");
    RopeWalk x = new RopeWalk();
    x.hang(5, Make.wornYarn(x, 2000, 64, 0, 1998, 0));
    due.is("the last place of the last reel", cutNew(x, 1, 1), 51999);
    due.is("nothing is left", cutNew(x, 1, 1), -1);
    due.is("join()", x.join(0), 51999);
    x.spot(0, 0, 0, 1999, 0);
    due.is("worn, too", x.cut(0), -1);
    x.spot(0, 0, 0, 2000, 8);
    due.is("the first place", x.cut(0), 50000);
    due.is("the second", x.cut(1), 50001);
  }

  private static void cutNeedsNothing() {
    due.about("27 an order that must bear nothing");
    RopeWalk x = new RopeWalk();
    x.hang(1, Make.wornYarn(x, 20, 64, 0, 19, 0));
    due.is("an eighth", cutNew(x, 20, 1), -1);
    due.is("nothing", cutNew(x, 20, 0), 10000);
    RopeWalk y = new RopeWalk();
    y.hang(1, y.yarn(20, 0));
    due.is("of no strength", cutNew(y, 20, 0), 10000);
  }

  private static void cutInParts() {
    due.about("27 where a part is worn");
    RopeWalk x = new RopeWalk();
    int a = Make.wornYarn(x, 200, 64, 50, 51, 0);
    int s = Make.lay(x, Make.STRAND, Make.LEFT, 0, a, x.yarn(100, 64));
    x.hang(0, s);
    due.is("25 on the whole", cutNew(x, 25, 112), 0);
    due.is("26 and on", cutNew(x, 74, 112), 26);
    due.is("25 itself", cutNew(x, 1, 57), -1);
    due.is("25 itself bears half", cutNew(x, 1, 56), 25);
    RopeWalk y = new RopeWalk();
    int p = y.splice(Make.rope(y, 20, 8, Make.LEFT), Make.rope(y, 20, 16, Make.LEFT), 5);
    y.hang(4, p);
    int one = (int) (8 * Make.ropeBears(8));
    due.is("of the first part", cutNew(y, 15, one), 40000);
    due.is("the second one's, with where both are", cutNew(y, 20, 2 * one), 40015);
    y.join(1);
    due.is("one more than the second has", cutNew(y, 21, one + 1), -1);
  }

  private static void cutStays() {
    due.about("27 it stays cut till join()");
    RopeWalk x = reels(20);
    cutNew(x, 10, 64);
    Make.wear(x, 0, 0, 19, 0);
    due.is("worn since", x.cut(0), -2);
    due.is("another one that needs nothing goes beside it", cutNew(x, 10, 0), 10);
    due.is("off(0)", x.off(0), -2);
    due.is("join(0)", x.join(0), 0);
    due.is("it fits no more", x.cut(0), -1);
    x.lose(0);
    due.is("it fits again", x.cut(0), 0);
  }

  private static void cutAfterAnotherPiece() {
    due.about("27 what was on a reel before is nothing to what is on it");
    RopeWalk x = new RopeWalk();
    x.hang(0, Make.wornYarn(x, 40, 64, 20, 21, 0));
    x.yarn(10, 64);
    due.is("all of the longer one", cutNew(x, 40, 0), 0);
    x.join(0);
    x.off(0);
    due.is("nothing is on it", x.cut(0), -1);
    x.hang(0, 1);
    due.is("more than the shorter one", cutNew(x, 11, 0), -1);
    due.is("fewest()", x.fewest(), -1);
    due.is("all of the shorter one", cutNew(x, 10, 64), 0);
    x.join(2);
    x.off(0);
    x.hang(0, 0);
    due.is("the longer one again", x.cut(0), 0);
  }

  // ---- 28, 29 ----

  private static void joinNoOrder() {
    due.about("28 there is no such order");
    RopeWalk x = reels(20);
    due.is("none is there", x.join(0), -2);
    cutNew(x, 1, 1);
    for (int o : new int[] {Integer.MIN_VALUE, -1, 1, 5, 6, Integer.MAX_VALUE}) due.is("join(" + o + ")", x.join(o), -2);
    due.is("cut still", x.count(7), 1);
    due.is("join(0)", x.join(0), 0);
  }

  private static void joinNotCut() {
    due.about("28 or it isn't cut");
    RopeWalk x = reels(20);
    x.order(10, 64);
    due.is("never cut", x.join(0), -2);
    x.order(21, 64);
    due.is("it fits nowhere", x.cut(1), -1);
    due.is("not cut", x.join(1), -2);
    x.cut(0);
    due.is("cut", x.join(0), 0);
    due.is("joined already", x.join(0), -2);
  }

  private static void joinAnswers() {
    due.about("28 cut no longer: where it was");
    RopeWalk x = reels(5, 5, 5, 5, 5, 5);
    for (int o = 0; o < 6; o++) cutNew(x, 5, 0);
    for (int o = 5; o >= 0; o--) {
      due.is("join(" + o + ")", x.join(o), 10000 * o);
      due.is("count(7)", x.count(7), o);
    }
    due.is("the first reel is free again", x.cut(5), 0);
    due.is("join(5)", x.join(5), 0);
    due.is("count(6)", x.count(6), 6);
  }

  private static void begunLengths() {
    due.about("29 the lengths of the pieces on reels from which an order is cut");
    RopeWalk x = reels(2000, 2000, 2000, 2000, 2000, 2000);
    due.is("no orders", x.begun(), 0);
    for (int o = 0; o < 6; o++) x.order(2000, 0);
    due.is("none is cut", x.begun(), 0);
    for (int o = 0; o < 6; o++) {
      x.cut(o);
      due.is("cut from " + (o + 1), x.begun(), 2000 * (o + 1));
    }
    x.join(3);
    due.is("one is joined", x.begun(), 10000);
    RopeWalk y = reels(60, 7);
    for (int o = 0; o < 6; o++) {
      cutNew(y, 10, 0);
      due.is("of one reel", y.begun(), 60);
    }
    due.is("nothing on any reel", new RopeWalk().begun(), 0);
  }

  // ---- 30 ----

  private static void fewestNoOrders() {
    due.about("30 0 when there are no such orders");
    due.is("no orders, no reels", new RopeWalk().fewest(), 0);
    RopeWalk x = reels(10, 10);
    due.is("no orders", x.fewest(), 0);
    x.order(5, 0);
    due.is("one", x.fewest(), 10);
    x.cut(0);
    due.is("all are cut", x.fewest(), 0);
    x.order(5, 0);
    due.is("but one", x.fewest(), 10);
    x.cut(1);
    due.is("all are cut again", x.fewest(), 0);
  }

  private static void fewestNoReels() {
    due.about("30 -1 when no reels do");
    RopeWalk x = new RopeWalk();
    x.order(1, 0);
    due.is("nothing is on any", x.fewest(), -1);
    x.hang(0, x.yarn(1, 8));
    due.is("one place", x.fewest(), 1);
    x.order(1, 0);
    due.is("one place for two", x.fewest(), -1);
    RopeWalk y = reels(9, 9, 9, 9, 9, 9);
    y.order(10, 0);
    due.is("none is long enough", y.fewest(), -1);
    RopeWalk z = reels(9, 9, 9, 9, 9, 9);
    z.order(9, 65);
    due.is("none bears as much", z.fewest(), -1);
    z.order(9, 64);
    due.is("one of two fits nowhere", z.fewest(), -1);
  }

  private static void fewestNotBegun() {
    due.about("30 from none of which an order is cut");
    for (int begun = 0; begun < 6; begun++) {
      int[] lengths = {50, 50, 50, 50, 50, 50};
      lengths[begun] = 9;
      RopeWalk x = reels(9, 9, 9, 9, 9, 9);
      for (int o = 0; o < 5; o++) cutNew(x, 1, 0);
      for (int o = 0; o < 5; o++) x.join(o);
      for (int r = 0; r < 6; r++) x.off(r);
      for (int r = 0; r < 6; r++) x.hang(r, x.yarn(lengths[r], r == begun ? 64 : 8));
      x.order(2, 64);
      due.is("cut from " + begun, x.cut(5), 10000 * begun);
      due.is("the others alone", x.fewest(), 50);
      x.join(5);
      due.is("none is cut: it is enough", x.fewest(), 9);
    }
    RopeWalk y = reels(20);
    cutNew(y, 1, 0);
    y.order(1, 0);
    due.is("the only one is begun", y.fewest(), -1);
    y.join(0);
    due.is("not any more", y.fewest(), 20);
  }

  private static void fewestExact() {
    due.about("30 that fill a reel to its last place, and one more");
    RopeWalk x = reels(30, 31, 60);
    x.order(10, 0);
    x.order(10, 0);
    x.order(10, 0);
    due.is("just 30", x.fewest(), 30);
    x.order(1, 0);
    due.is("just 31", x.fewest(), 31);
    x.order(1, 0);
    due.is("one more", x.fewest(), 60);
    x.order(28, 0);
    due.is("just 60", x.fewest(), 60);
    RopeWalk y = reels(30, 31, 60);
    for (int o = 0; o < 5; o++) y.order(10, 0);
    due.is("50", y.fewest(), 60);
    y.order(11, 0);
    due.is("61", y.fewest(), 61);
  }

  private static void fewestLeast() {
    due.about("30 the least that the lengths together can be");
    RopeWalk x = reels(12, 11, 10, 9, 8, 7);
    x.order(7, 0);
    due.is("the last reel", x.fewest(), 7);
    x.order(7, 0);
    due.is("two, of which one is longer", x.fewest(), 15);
    x.order(5, 0);
    due.is("one of them takes two", x.fewest(), 12 + 7);
    x.order(8, 0);
    due.is("three: what is longest is cut last", x.fewest(), 12 + 9 + 8);
    due.is("alike in length", fewestOfAlike(), 10);
  }

  private static int fewestOfAlike() {
    RopeWalk x = reels(10, 10, 10);
    x.order(10, 0);
    return x.fewest();
  }

  private static void fewestInTheirOrder() {
    due.about("30 by their numbers, by first fit, one behind the other");
    RopeWalk x = reels(10, 6);
    x.order(4, 0);
    x.order(6, 0);
    x.order(6, 0);
    due.is("4 and 6 on the first, 6 on the second", x.fewest(), 16);
    RopeWalk y = reels(10, 6);
    y.order(6, 0);
    y.order(6, 0);
    y.order(4, 0);
    due.is("6, 6 on the second, 4 on the first", y.fewest(), 16);
    RopeWalk z = reels(10, 6);
    z.order(4, 0);
    z.order(4, 0);
    z.order(6, 0);
    due.is("4, 4 on the first, 6 on the second", z.fewest(), 16);
    z.order(2, 0);
    due.is("and 2 on the first", z.fewest(), 16);
    RopeWalk w = reels(6, 10);
    w.order(4, 0);
    w.order(6, 0);
    w.order(6, 0);
    due.is("4 is cut from the first, where then no 6 fits", w.fewest(), -1);
    w.cut(1);
    due.is("one is cut from the first", w.fewest(), 10);
  }

  private static void fewestAllReels() {
    due.about("30 all reels");
    RopeWalk x = reels(2000, 2000, 2000, 2000, 2000, 2000);
    for (int o = 0; o < 6; o++) {
      x.order(2000, 64);
      due.is("of " + (o + 1), x.fewest(), 2000 * (o + 1));
    }
    RopeWalk y = reels(1, 1, 1, 1, 1, 1);
    for (int o = 0; o < 6; o++) y.order(1, 64);
    due.is("of one place each", y.fewest(), 6);
    RopeWalk z = reels(0, 0, 0, 0, 0, 7);
    z.order(7, 64);
    due.is("the last one", z.fewest(), 7);
  }

  private static void fewestCutsNothing() {
    due.about("30 nothing is cut");
    RopeWalk x = reels(10, 10);
    x.order(5, 0);
    x.order(6, 0);
    due.is("fewest()", x.fewest(), 20);
    due.is("count(7)", x.count(7), 0);
    due.is("begun()", x.begun(), 0);
    due.is("join(0)", x.join(0), -2);
    due.is("off(1)", x.off(1), 1);
    due.is("fewest()", x.fewest(), -1);
    due.is("cut(1)", x.cut(1), 0);
    due.is("fewest()", x.fewest(), -1);
    due.is("join(1), which is where it was", x.join(1), 0);
    due.is("cut(0)", x.cut(0), 0);
  }

  private static void fewestAsCutWould() {
    due.about("30 past worn places");
    RopeWalk x = new RopeWalk();
    x.hang(1, Make.wornYarn(x, 20, 64, 9, 10, 4));
    x.hang(2, x.yarn(17, 64));
    x.order(9, 64);
    x.order(9, 64);
    due.is("beside the worn places", x.fewest(), 20);
    x.order(2, 33);
    due.is("on the worn places is too little", x.fewest(), 37);
    RopeWalk y = new RopeWalk();
    y.hang(1, Make.wornYarn(y, 20, 64, 9, 10, 4));
    y.hang(2, y.yarn(17, 64));
    y.order(9, 64);
    y.order(9, 64);
    y.order(2, 32);
    due.is("on the worn places, just as much", y.fewest(), 20);
    y.order(1, 0);
    due.is("one more", y.fewest(), 37);
  }
}
