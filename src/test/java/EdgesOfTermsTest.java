/** The edges that the document's "Terms" name, one test for each of their sentences. */
public final class EdgesOfTermsTest {
  private static final Due due = new Due();

  public static void main(String[] args) {
    callsAtMost();
    piecesAtMost();
    goneAreCounted();
    lengthAndPlaces();
    twists();
    states();
    partsOfStrand();
    partsOfRope();
    partsOfCable();
    lengthOfLaid();
    leastLengthWherever();
    lengthOfSplice();
    rowAtFirst();
    spotsOfRow();
    spotCoversBoth();
    spotOfOnePlace();
    spotTheFirstAbove();
    spotBehindTheEnd();
    sharesInTheirOrder();
    shares();
    strengths();
    placesOfParts();
    lastPlaceOfPart();
    sumInTheirOrder();
    factors();
    splicePlaces();
    spliceGreater();
    spliceAllOver();
    weakestIsFirst();
    weight();
    reels();
    ordersAtMost();
    stagesAtMost();
    binds();
    due.end();
  }

  private static void callsAtMost() {
    due.about("an object is used for at most 512 calls");
    RopeWalk x = new RopeWalk();
    for (int n = 0; n < 255; n++) {
      due.is("stage(8)", x.stage(8), 1);
      due.is("unstage()", x.unstage(), 8);
    }
    due.is("the 511th call", x.yarn(5, 8), 0);
    due.isReal("the 512th call", x.least(0), 1.0);
  }

  private static void piecesAtMost() {
    due.about("numbered from 0 as they are made, 120 at most");
    RopeWalk x = new RopeWalk();
    int s = Make.splice(x, 10, 8, Make.LEFT);
    due.is("the splice", s, 20);
    int r = Make.rope(x, 10, 8, Make.LEFT);
    for (int p = 31; p < 119; p++) due.is("a piece more", p % 2 == 0 ? x.yarn(1, 1) : x.tape(1, 1), p);
    due.is("the 120th", x.splice(r, s, 1), 119);
    due.is("of(119, 0)", x.of(119, 0), Make.SPLICE);
    due.is("of(120, 0)", x.of(120, 0), -2);
    due.is("the 121st, a yarn", x.yarn(1, 1), -2);
    due.is("the 121st, a tape", x.tape(1, 1), -2);
    due.is("the 121st, a strand", Make.lay(x, Make.STRAND, Make.LEFT, 0, 31, 32), -2);
    due.is("count(0)", x.count(0), 120);
  }

  private static void goneAreCounted() {
    due.about("pieces that are gone are pieces still");
    RopeWalk x = new RopeWalk();
    int p = Make.gone(x, 5, 8);
    for (int n = 3; n < 120; n++) x.yarn(1, 1);
    due.is("the 121st, though one is gone", x.yarn(1, 1), -2);
    due.is("its length", x.of(p, 1), 5);
  }

  private static void lengthAndPlaces() {
    due.about("a length, 1 to 2000, of places 0 to length - 1");
    for (int length : new int[] {1, 2, 1999, 2000}) {
      RopeWalk x = new RopeWalk();
      int[] all = Make.eachKind(x, length, 8, Make.LEFT);
      for (int p : all) {
        due.is("of(" + p + ", 1)", x.of(p, 1), length);
        due.isReal("bears(" + p + ", -1)", x.bears(p, -1), -2.0);
        due.holds("bears(" + p + ", 0)", x.bears(p, 0) > 0.0);
        due.isReal("bears(" + p + ", length - 1)", x.bears(p, length - 1), x.bears(p, 0));
        due.isReal("bears(" + p + ", length)", x.bears(p, length), -2.0);
      }
    }
  }

  private static void twists() {
    due.about("a twist: 0 none (a yarn, a tape), 1 right, 2 left");
    for (int twist = 1; twist <= 2; twist++) {
      RopeWalk x = new RopeWalk();
      int[] all = Make.eachKind(x, 5, 8, twist);
      int[] want = {0, twist, twist, twist, 0, twist};
      for (int kind = 0; kind < 6; kind++) {
        due.is("kind " + kind, x.of(all[kind], 0), kind);
        due.is("twist of kind " + kind, x.of(all[kind], 2), want[kind]);
      }
    }
  }

  private static void states() {
    due.about("free at first, laid while a part, hung while on a reel, gone when untwisted");
    RopeWalk x = new RopeWalk();
    int[] all = Make.eachKind(x, 5, 8, Make.LEFT);
    for (int p : all) due.is("free at first", x.of(p, 3), 0);
    for (int p : all) {
      x.hang(0, p);
      due.is("hung", x.of(p, 3), 2);
      x.off(0);
      due.is("off, free again", x.of(p, 3), 0);
    }
    int s = Make.lay(x, Make.STRAND, Make.LEFT, 0, all[Make.YARN], all[Make.TAPE]);
    due.is("a yarn is laid", x.of(all[Make.YARN], 3), 1);
    due.is("a tape is laid", x.of(all[Make.TAPE], 3), 1);
    x.untwist(s);
    due.is("gone", x.of(s, 3), 3);
    due.is("its parts are free", x.of(all[Make.YARN], 3) + x.of(all[Make.TAPE], 3), 0);
    int t = x.splice(all[Make.ROPE], all[Make.CABLE], 5);
    due.is("a rope is laid", x.of(all[Make.ROPE], 3), 1);
    due.is("a cable is laid", x.of(all[Make.CABLE], 3), 1);
    x.untwist(t);
    due.is("a splice is gone", x.of(t, 3), 3);
    due.is("they are free", x.of(all[Make.ROPE], 3) + x.of(all[Make.CABLE], 3), 0);
  }

  private static int[] some(RopeWalk x, int kind, int count) {
    int[] parts = new int[count];
    for (int k = 0; k < count; k++) {
      if (kind == Make.STRAND) parts[k] = k % 2 == 0 ? x.yarn(5, 8) : x.tape(5, 8);
      else if (kind == Make.ROPE) parts[k] = Make.strand(x, 5, 8, Make.RIGHT);
      else parts[k] = Make.rope(x, 5, 8, Make.RIGHT);
    }
    return parts;
  }

  private static void laidOf(int kind, int count, boolean may) {
    RopeWalk x = new RopeWalk();
    int[] parts = some(x, kind, count);
    int pieces = x.count(0);
    due.is(count + " parts", Make.lay(x, kind, Make.LEFT, 0, parts), may ? pieces : -2);
    due.is(count + " parts, told", x.of(pieces, 4), may ? count : -2);
  }

  private static void partsOfStrand() {
    due.about("a strand has 2 to 9 parts");
    for (int count = 0; count <= 9; count++) laidOf(Make.STRAND, count, count >= 2);
    RopeWalk x = new RopeWalk();
    int[] ten = some(x, Make.STRAND, 10);
    due.is("of ten the first nine are picked", Make.lay(x, Make.STRAND, Make.LEFT, 0, ten), 10);
    due.is("parts", x.of(10, 4), 9);
    due.is("the tenth is free", x.of(9, 3), 0);
  }

  private static void partsOfRope() {
    due.about("a rope 3 or 4");
    for (int count = 0; count <= 9; count++) laidOf(Make.ROPE, count, count == 3 || count == 4);
  }

  private static void partsOfCable() {
    due.about("a cable 3");
    for (int count = 0; count <= 9; count++) laidOf(Make.CABLE, count, count == 3);
  }

  private static void lengthOfLaid() {
    due.about("the least length times what 1000 is more than the turns, by 1000, cut down");
    int[][] want = {{2000, 0, 2000}, {2000, 1, 1998}, {2000, 399, 1202}, {2000, 400, 1200}, {1999, 1, 1997},
        {999, 1, 998}, {1667, 400, 1000}, {1666, 400, 999}, {1, 0, 1}, {2, 400, 1}, {2, 1, 1}, {3, 333, 2},
        {3, 334, 1}, {5, 200, 4}, {5, 201, 3}};
    for (int[] w : want) {
      RopeWalk x = new RopeWalk();
      int s = Make.lay(x, Make.STRAND, Make.LEFT, w[1], x.yarn(w[0], 8), x.tape(w[0], 8));
      due.is("a strand of " + w[0] + " with turns " + w[1], x.of(s, 1), w[2]);
      int r = Make.lay(x, Make.ROPE, Make.RIGHT, w[1], Make.strand(x, w[0], 8, Make.LEFT),
          Make.strand(x, w[0], 8, Make.LEFT), Make.strand(x, w[0], 8, Make.LEFT));
      due.is("a rope of " + w[0] + " with turns " + w[1], x.of(r, 1), w[2]);
      int c = Make.lay(x, Make.CABLE, Make.RIGHT, w[1], Make.rope(x, w[0], 8, Make.LEFT),
          Make.rope(x, w[0], 8, Make.LEFT), Make.rope(x, w[0], 8, Make.LEFT));
      due.is("a cable of " + w[0] + " with turns " + w[1], x.of(c, 1), w[2]);
    }
  }

  private static void leastLengthWherever() {
    due.about("the least length, whichever part has it");
    for (int at = 0; at < 9; at++) {
      RopeWalk x = new RopeWalk();
      int[] parts = new int[9];
      for (int k = 0; k < 9; k++) parts[k] = x.yarn(k == at ? 100 : 101 + k, 8);
      due.is("part " + at, x.of(Make.lay(x, Make.STRAND, Make.LEFT, 0, parts), 1), 100);
    }
  }

  private static void lengthOfSplice() {
    due.about("a splice's length is both together less these");
    int[][] want = {{1, 1, 1, 1}, {1, 5, 1, 5}, {5, 1, 1, 5}, {5, 6, 5, 6}, {6, 5, 5, 6}, {5, 6, 1, 10},
        {1000, 1001, 1, 2000}, {1001, 1001, 1, -2}, {1001, 1001, 2, 2000}, {2000, 1, 1, 2000},
        {2000, 2, 1, -2}, {2000, 2, 2, 2000}, {2000, 2000, 2000, 2000}, {2000, 2000, 1999, -2}};
    for (int[] w : want) {
      RopeWalk x = new RopeWalk();
      int s = x.splice(Make.rope(x, w[0], 8, Make.LEFT), Make.rope(x, w[1], 8, Make.LEFT), w[2]);
      due.is(w[0] + " and " + w[1] + " over " + w[2], x.of(s, 1), w[3]);
    }
  }

  private static void rowAtFirst() {
    due.about("at first it has no row");
    RopeWalk x = new RopeWalk();
    for (int p : Make.eachKind(x, 5, 8, Make.LEFT)) {
      due.is("of(" + p + ", 7)", x.of(p, 7), -1);
      due.is("spot()", x.spot(p, 0, 0, 0, 1), -10);
      due.is("row()", x.row(p, 1), 1);
      due.is("a spot is untold at first", x.spot(p, 0, 0, 0, -1), 0);
    }
  }

  private static void spotsOfRow() {
    due.about("a row of 0 to 8 spots");
    for (int n = -1; n <= 9; n++) {
      RopeWalk x = new RopeWalk();
      x.yarn(5, 8);
      boolean may = n >= 0 && n <= 8;
      due.is("row(0, " + n + ")", x.row(0, n), may ? n : n < 0 ? -13 : -2);
      due.is("of(0, 7)", x.of(0, 7), may ? n : -1);
      for (int i = -1; i <= 9; i++) {
        int want = !may ? -10 : i >= 0 && i < n ? 0 : -11;
        due.is("spot(0, " + i + ", ..)", x.spot(0, i, 0, 0, 8), want);
      }
      due.isReal("bears(0, 0)", x.bears(0, 0), 1.0);
    }
  }

  private static void spotCoversBoth() {
    due.about("it covers both places");
    RopeWalk x = new RopeWalk();
    x.yarn(2000, 8);
    int[][] spots = {{0, 3}, {1, 4}, {700, 1400}, {0, 1999}, {1, 1998}, {1990, 1999}, {1990, 2000}, {0, 2000}};
    x.row(0, 1);
    for (int[] s : spots) {
      x.spot(0, 0, s[0], s[1], 4);
      String told = s[0] + " to " + s[1];
      due.isReal("before " + told, x.bears(0, s[0] - 1), s[0] == 0 ? -2.0 : 1.0);
      due.isReal("the first of " + told, x.bears(0, s[0]), 0.5);
      due.isReal("the last of " + told, x.bears(0, s[1]), s[1] > 1999 ? -2.0 : 0.5);
      due.isReal("behind " + told, x.bears(0, s[1] + 1), s[1] >= 1999 ? -2.0 : 1.0);
      due.is("the weakest place", x.where(0), s[0]);
    }
  }

  private static void spotOfOnePlace() {
    due.about("from a place to the same one");
    for (int at : new int[] {0, 1, 1998, 1999}) {
      RopeWalk x = new RopeWalk();
      Make.wornYarn(x, 2000, 8, at, at, 0);
      due.isReal("before it", x.bears(0, at - 1), at == 0 ? -2.0 : 1.0);
      due.isReal("there", x.bears(0, at), 0.0);
      due.isReal("behind it", x.bears(0, at + 1), at == 1999 ? -2.0 : 1.0);
      due.is("the weakest place", x.where(0), at);
    }
  }

  private static void spotTheFirstAbove() {
    due.about("if the first is above the second it covers nothing");
    RopeWalk x = new RopeWalk();
    Make.wornYarn(x, 10, 8, 5, 4, 0);
    due.isReal("5 to 4, least", x.least(0), 1.0);
    due.isReal("5 to 4, at 4", x.bears(0, 4), 1.0);
    due.isReal("5 to 4, at 5", x.bears(0, 5), 1.0);
    due.is("it is told, though", x.spot(0, 0, 2000, 0, 0), 1);
    due.isReal("2000 to 0, least", x.least(0), 1.0);
    due.is("told still", x.spot(0, 0, 9, 0, 0), 1);
    due.isReal("9 to 0, least", x.least(0), 1.0);
    due.is("where", x.where(0), 0);
  }

  private static void spotBehindTheEnd() {
    due.about("a spot's places are 0 to 2000, however long the piece is");
    RopeWalk x = new RopeWalk();
    Make.wornYarn(x, 1, 8, 1, 2000, 0);
    due.isReal("behind the only place", x.least(0), 1.0);
    x.spot(0, 0, 2000, 2000, 0);
    due.isReal("at 2000", x.least(0), 1.0);
    x.spot(0, 0, 0, 2000, 0);
    due.isReal("from the only place on", x.least(0), 0.0);
    Make.wornYarn(x, 2000, 8, 2000, 2000, 0);
    due.isReal("at 2000, with a length of 2000", x.least(1), 1.0);
    x.spot(1, 0, 1999, 2000, 0);
    due.isReal("at 1999", x.least(1), 0.0);
    due.is("where", x.where(1), 1999);
  }

  private static void sharesInTheirOrder() {
    due.about("times the shares, one by one in their order");
    int differ = 0;
    for (int eighths = 79990; eighths < 80000; eighths++) {
      RopeWalk x = new RopeWalk();
      int[] shares = {7, 7, 7, 5, 3, 7, 5, 7};
      float forth = eighths * 0.125f;
      float back = eighths * 0.125f;
      x.yarn(3, eighths);
      x.yarn(3, eighths);
      x.row(0, 8);
      x.row(1, 8);
      for (int i = 0; i < 8; i++) {
        x.spot(0, i, 0, 2, shares[i]);
        x.spot(1, 7 - i, 0, 2, shares[i]);
        forth = forth * (shares[i] * 0.125f);
        back = back * (shares[7 - i] * 0.125f);
      }
      due.isReal("forth, " + eighths, x.bears(0, 2), forth);
      due.isReal("back, " + eighths, x.bears(1, 2), back);
      if (forth != back) differ++;
    }
    due.holds("the order is seen", differ > 0);
  }

  private static void shares() {
    due.about("a share: so many eighths (0 to 8) times 0.125f");
    RopeWalk x = new RopeWalk();
    x.yarn(4, 64);
    x.row(0, 2);
    for (int eighths = 0; eighths <= 8; eighths++) {
      x.spot(0, 1, 1, 2, eighths);
      due.isReal("covered", x.bears(0, 1), eighths);
      due.isReal("not covered", x.bears(0, 0), 8.0);
    }
    due.is("spot(.., 9)", x.spot(0, 1, 1, 2, 9), -2);
    due.is("a share of 8 is told", x.spot(0, 1, 1, 2, 0), 1);
    due.is("spot(.., -2)", x.spot(0, 1, 1, 2, -2), -2);
    due.is("a share of 0 is told", x.spot(0, 1, 1, 2, -1), 1);
    due.isReal("untold", x.bears(0, 1), 8.0);
  }

  private static void strengths() {
    due.about("strength: eighths, 0 to 80000, times 0.125f; of a tape times 0.5f");
    int[] eighths = {0, 1, 2, 79999, 80000};
    RopeWalk x = new RopeWalk();
    for (int e : eighths) {
      due.isReal("a yarn of " + e, x.bears(x.yarn(2, e), 1), e / 8.0);
      due.isReal("a tape of " + e, x.bears(x.tape(2, e), 1), e / 16.0);
    }
  }

  private static void placesOfParts() {
    due.about("place x times its own length (that first) by this one's, cut down");
    int[][] lengths = {{7, 4}, {2000, 1999}, {2000, 3}, {10, 10}, {11, 10}, {2000, 1}, {999, 998}, {5, 3}};
    for (int[] l : lengths) {
      for (int x = 0; x < l[1]; x += 1 + l[1] / 5) {
        int at = x * l[0] / l[1];
        due.isReal(l[0] + " in " + l[1] + ", at " + x, bearsWornAt(l, at, x), 8.0 * 0.875);
        due.isReal("the place before", bearsWornAt(l, at - 1, x), 16.0 * 0.875);
        due.isReal("the place behind", bearsWornAt(l, at + 1, x), 16.0 * 0.875);
      }
    }
  }

  /** What a strand as long as the shorter one bears at x, when the longer part can't bear at a place. */
  private static double bearsWornAt(int[] lengths, int place, int x) {
    RopeWalk walk = new RopeWalk();
    int a = place < 0 ? walk.yarn(lengths[0], 64) : Make.wornYarn(walk, lengths[0], 64, place, place, 0);
    return walk.bears(Make.lay(walk, Make.STRAND, Make.LEFT, 0, a, walk.yarn(lengths[1], 64)), x);
  }

  private static void lastPlaceOfPart() {
    due.about("what the last place of the whole is on its part");
    RopeWalk x = new RopeWalk();
    int a = Make.wornYarn(x, 10, 64, 9, 9, 0);
    int s = Make.lay(x, Make.STRAND, Make.LEFT, 400, a, x.yarn(10, 64));
    due.is("its length", x.of(s, 1), 6);
    due.isReal("5 is 8 on the part, not the last", x.least(s), 14.0);
    x.spot(a, 0, 8, 8, 0);
    due.is("worn there", x.where(s), 5);
    x.spot(a, 0, 7, 7, 0);
    due.isReal("7 is met by no place", x.least(s), 14.0);
    x.spot(a, 0, 6, 6, 0);
    due.is("6 is met by 4", x.where(s), 4);
    x.spot(a, 0, 6, 7, 0);
    due.is("6 to 7", x.where(s), 4);
    x.spot(a, 0, 7, 9, 0);
    due.is("7 to 9", x.where(s), 5);
    x.spot(a, 0, 0, 0, 0);
    due.is("the first", x.where(s), 0);
  }

  private static void sumInTheirOrder() {
    due.about("0.0f, and what each part bears, added one by one in order");
    RopeWalk x = new RopeWalk();
    int[] parts = new int[9];
    for (int k = 0; k < 8; k++) {
      parts[k] = x.yarn(3, 1);
      x.row(parts[k], 3);
      for (int i = 0; i < 3; i++) x.spot(parts[k], i, 0, 2, 1);
    }
    // Each of them is half of what a float near 10000 can hold: alone it is lost, two together are not.
    parts[8] = x.yarn(3, 80000);
    double tiny = x.bears(parts[0], 0);
    due.isReal("one", tiny, 1.0 / 4096);
    int last = Make.lay(x, Make.STRAND, Make.LEFT, 0, parts);
    float sum = 0.0f;
    for (int k = 0; k < 8; k++) sum = sum + (float) tiny;
    due.isReal("the great one last", x.bears(last, 1), (sum + 10000.0f) * 0.875f);
    x.untwist(last);
    int first = Make.lay(x, Make.STRAND, Make.LEFT, 0, parts[8], parts[0], parts[1], parts[2], parts[3],
        parts[4], parts[5], parts[6], parts[7]);
    due.isReal("the great one first", x.bears(first, 1), 10000.0f * 0.875f);
    due.holds("the order is seen", (sum + 10000.0f) * 0.875f != 10000.0f * 0.875f);
  }

  private static void factors() {
    due.about("that sum times 0.875f, 0.75f, 0.625f");
    RopeWalk x = new RopeWalk();
    int[] all = Make.eachKind(x, 5, 64, Make.LEFT);
    double rope = 6 * 8 * 0.875 * 0.75;
    double[] want = {8.0, 2 * 8 * 0.875, rope, 3 * rope * 0.625, 4.0, rope};
    for (int kind = 0; kind < 6; kind++) due.isReal("kind " + kind, x.bears(all[kind], 4), want[kind]);
    RopeWalk z = new RopeWalk();
    int[] none = Make.eachKind(z, 5, 0, Make.LEFT);
    for (int kind = 0; kind < 6; kind++) due.isReal("of nothing, " + kind, z.bears(none[kind], 4), 0.0);
  }

  private static void splicePlaces() {
    due.about("the second one beginning so many places ahead of the first one's end");
    RopeWalk x = new RopeWalk();
    int a = Make.rope(x, 8, 8, Make.LEFT);
    int b = Make.rope(x, 9, 16, Make.LEFT);
    int s = x.splice(a, b, 3);
    double one = Make.ropeBears(8);
    due.is("its length", x.of(s, 1), 14);
    due.isReal("the first place", x.bears(s, 0), one);
    due.isReal("the last one before the second begins", x.bears(s, 4), one);
    due.isReal("the second one's first", x.bears(s, 5), 2 * one);
    due.isReal("the first one's last", x.bears(s, 7), 2 * one);
    due.isReal("behind the first one", x.bears(s, 8), 2 * one);
    due.isReal("the second one's last", x.bears(s, 13), 2 * one);
    due.isReal("behind it", x.bears(s, 14), -2.0);
    Make.wear(x, b, 0, 0, 4);
    due.isReal("the second's first worn", x.bears(s, 5), one);
    due.isReal("the second's second not", x.bears(s, 6), 2 * one);
    x.spot(b, 0, 8, 8, 1);
    due.isReal("the second's last worn", x.bears(s, 13), one / 4);
    due.is("where", x.where(s), 13);
    x.spot(b, 0, 0, 8, 0);
    Make.wear(x, a, 7, 7, 2);
    due.isReal("the last place where the first one is", x.bears(s, 7), one / 4);
    due.isReal("the second alone, worn", x.bears(s, 8), 0.0);
    due.is("where", x.where(s), 8);
  }

  private static void spliceGreater() {
    due.about("where both are, the greater one of both");
    int[][] eighths = {{8, 16}, {16, 8}, {8, 8}, {0, 8}, {8, 0}, {0, 0}};
    for (int[] e : eighths) {
      RopeWalk x = new RopeWalk();
      int s = x.splice(Make.rope(x, 4, e[0], Make.LEFT), Make.rope(x, 4, e[1], Make.LEFT), 2);
      double[] want = {e[0], e[0], Math.max(e[0], e[1]), Math.max(e[0], e[1]), e[1], e[1]};
      for (int at = 0; at < 6; at++) {
        due.isReal(e[0] + " and " + e[1] + ", at " + at, x.bears(s, at), Make.ropeBears(1) * want[at]);
      }
    }
  }

  private static void spliceAllOver() {
    due.about("where one part lies within the other one");
    RopeWalk x = new RopeWalk();
    int s = x.splice(Make.rope(x, 9, 8, Make.LEFT), Make.rope(x, 3, 16, Make.LEFT), 3);
    double one = Make.ropeBears(8);
    for (int at = 0; at < 9; at++) due.isReal("the second in the first, at " + at, x.bears(s, at), at < 6 ? one : 2 * one);
    RopeWalk y = new RopeWalk();
    int t = y.splice(Make.rope(y, 3, 16, Make.LEFT), Make.rope(y, 9, 8, Make.LEFT), 3);
    for (int at = 0; at < 9; at++) due.isReal("the first in the second, at " + at, y.bears(t, at), at < 3 ? 2 * one : one);
    RopeWalk z = new RopeWalk();
    int u = z.splice(Make.rope(z, 1, 8, Make.LEFT), Make.rope(z, 1, 16, Make.LEFT), 1);
    due.isReal("both of one place", z.bears(u, 0), 2 * one);
    due.isReal("behind it", z.bears(u, 1), -2.0);
  }

  private static void weakestIsFirst() {
    due.about("the weakest place is the first at which it bears least");
    RopeWalk x = new RopeWalk();
    int[] all = Make.eachKind(x, 50, 80, Make.LEFT);
    for (int p : all) {
      due.is("alike everywhere", x.where(p), 0);
      x.row(p, 3);
      x.spot(p, 0, 40, 49, 4);
      due.is("from 40 on", x.where(p), 40);
      x.spot(p, 1, 30, 30, 4);
      due.is("30 as well", x.where(p), 30);
      x.spot(p, 1, 30, 30, 5);
      due.is("30 a little more", x.where(p), 40);
      x.spot(p, 2, 49, 49, 7);
      due.is("the last place", x.where(p), 49);
      x.spot(p, 1, 0, 0, 3);
      due.is("the first place", x.where(p), 0);
    }
  }

  private static void weight() {
    due.about("weight");
    RopeWalk x = new RopeWalk();
    int[] all = Make.eachKind(x, 2000, 8, Make.LEFT);
    int[] want = {2000, 4000, 12000, 38000, 4000, 24000};
    for (int kind = 0; kind < 6; kind++) due.is("kind " + kind, x.of(all[kind], 5), want[kind]);
    RopeWalk z = new RopeWalk();
    int[] least = Make.eachKind(z, 1, 8, Make.LEFT);
    int[] wantLeast = {1, 2, 6, 19, 2, 12};
    for (int kind = 0; kind < 6; kind++) due.is("of length 1, kind " + kind, z.of(least[kind], 5), wantLeast[kind]);
    RopeWalk y = new RopeWalk();
    int c = Make.lay(y, Make.CABLE, Make.RIGHT, 400, Make.splice(y, 10, 8, Make.LEFT),
        Make.rope(y, 20, 8, Make.LEFT), Make.rope(y, 30, 8, Make.LEFT));
    due.is("a cable: its parts', and its own length of 6", y.of(c, 5), 120 + 120 + 180 + 6);
  }

  private static void reels() {
    due.about("reels 0 to 5, each with a piece, or nothing (at first)");
    RopeWalk x = new RopeWalk();
    for (int r = 0; r < 7; r++) x.yarn(10 + r, 8);
    for (int r = -1; r <= 6; r++) {
      boolean is = r >= 0 && r < 6;
      due.is("take(" + r + ", 0) at first", x.take(r, 0), is ? -10 : -11);
      due.is("off(" + r + ") at first", x.off(r), is ? -10 : -11);
      due.is("hang(" + r + ", ..)", x.hang(r, 6 - Math.max(0, r)), is ? 16 - r : -11);
      due.is("take(" + r + ", 0)", x.take(r, 0), is ? 6 - r : -11);
    }
    for (int r = 0; r < 6; r++) due.is("take(" + r + ", 0), each its own", x.take(r, 0), 6 - r);
    for (int r = 0; r < 6; r++) due.is("off(" + r + ")", x.off(r), 6 - r);
    for (int r = 0; r < 6; r++) due.is("off(" + r + ") again", x.off(r), -10);
  }

  private static void ordersAtMost() {
    due.about("orders are numbered from 0, 6 at most");
    RopeWalk x = new RopeWalk();
    x.hang(0, x.yarn(100, 8));
    for (int o = 0; o < 6; o++) {
      due.is("cut(" + o + "), not there yet", x.cut(o), -2);
      due.is("join(" + o + "), not there yet", x.join(o), -2);
      due.is("order()", x.order(10, 8), o);
      due.is("count(6)", x.count(6), o + 1);
      due.is("cut(" + o + ")", x.cut(o), 10 * o);
    }
    due.is("the seventh", x.order(10, 8), -2);
    due.is("cut(6)", x.cut(6), -2);
    due.is("join(6)", x.join(6), -2);
    due.is("join(5)", x.join(5), 50);
    due.is("the seventh, though one is cut no longer", x.order(10, 8), -2);
  }

  private static void stagesAtMost() {
    due.about("stages, 10 at most, each with 0 to 8 ropes");
    RopeWalk x = new RopeWalk();
    due.is("none at first", x.count(8), 0);
    for (int k = 0; k < 10; k++) {
      due.is("stress(" + k + "), not there yet", x.stress(k, 8, 0), -2);
      due.is("stage(-1)", x.stage(-1), -2);
      due.is("stage(9)", x.stage(9), -2);
      due.is("stage(8)", x.stage(8), k + 1);
      due.is("stress(" + k + ")", x.stress(k, 0, 1), 1);
    }
    due.is("the eleventh", x.stage(8), -2);
    due.is("unstage()", x.unstage(), 8);
    due.is("the tenth again", x.stage(0), 10);
  }

  private static void binds() {
    due.about("it binds if one is 0");
    for (int at = 0; at < 10; at++) {
      RopeWalk x = new RopeWalk();
      due.is("no stages", x.pull(5, 0), 5);
      for (int k = 0; k < 10; k++) x.stage(k == at ? 0 : 8);
      due.is("0 at " + at, x.pull(5, 0), -1);
      for (int k = 9; k > at; k--) x.unstage();
      due.is("0 at " + at + ", the latest", x.pull(5, 1), -1);
      x.unstage();
      due.is("0 at " + at + ", gone", x.pull(1, 1), 1L << 3 * at);
    }
  }
}
