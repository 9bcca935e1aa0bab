/** The edges that promises 16 to 22 name, one test for each of their sentences. */
public final class EdgesOfBearingTest {
  private static final int[] FAR = {Integer.MIN_VALUE, -1, 120, Integer.MAX_VALUE};
  /** 2^24 - 1, by 2^15: the greatest float below 512. */
  private static final double BELOW_512 = 16777215.0 / 32768.0;

  private static final Due due = new Due();

  public static void main(String[] args) {
    noPieceAtFirst();
    noPiece();
    lastPiece();
    gone();
    laidAndHung();
    bearsPlaces();
    bearsDeep();
    leastOfNothing();
    leastOfMost();
    leastOnOnePlace();
    leastOfWorn();
    whereOnOnePlace();
    whereBetweenSpots();
    whereInParts();
    gramsInFloats();
    gramsCut();
    restEighths();
    restAsOften();
    restNearSteps();
    restOfNothing();
    leftThousandths();
    leftAsOften();
    leftNearSteps();
    leftOfNothing();
    turnedEighths();
    turnedHows();
    turnedWrongAlike();
    turnedAtZero();
    turnedAtWhole();
    turnedAtHalf();
    turnedNearWhole();
    turnedNearHalf();
    turnedAtQuarter();
    turnedNearQuarter();
    turnedCut();
    turnedFar();
    turnedInFloats();
    due.end();
  }

  private static RopeWalk yarn(int eighths, int... shares) {
    RopeWalk x = new RopeWalk();
    x.yarn(3, eighths);
    x.row(0, shares.length);
    for (int i = 0; i < shares.length; i++) x.spot(0, i, 0, 2, shares[i]);
    return x;
  }

  /** The greatest float below 512 is LEAST: 53261 * 3 * 3 * 5 * 7 is 2^24 - 1. */
  private static RopeWalk below512() {
    return yarn(53261, 3, 3, 5, 7);
  }

  // ---- 16 to 22, what all of them refuse ----

  private static void allRefuse(String why, RopeWalk x, int p) {
    due.isReal(why + ", bears(" + p + ", 0)", x.bears(p, 0), -2.0);
    due.isReal(why + ", least(" + p + ")", x.least(p), -2.0);
    due.is(why + ", where(" + p + ")", x.where(p), -2);
    due.is(why + ", grams(" + p + ")", x.grams(p), -2);
    due.isReal(why + ", rest(" + p + ", 1)", x.rest(p, 1), -2.0);
    due.isReal(why + ", left(" + p + ", 1)", x.left(p, 1), -2.0);
    for (int how = 0; how <= 12; how++) due.is(why + ", turned(" + p + ", 0, " + how + ")", x.turned(p, 0, how), -1000000L);
  }

  private static void allAnswer(String why, RopeWalk x, int p, double least) {
    due.isReal(why + ", bears(" + p + ", 0)", x.bears(p, 0), least);
    due.isReal(why + ", least(" + p + ")", x.least(p), least);
    due.is(why + ", where(" + p + ")", x.where(p), 0);
    due.is(why + ", grams(" + p + ")", x.grams(p), (long) (least * 1000));
    due.isReal(why + ", rest(" + p + ", 80000)", x.rest(p, 80000), least);
    due.isReal(why + ", left(" + p + ", 1000000)", x.left(p, 1000000), least);
    due.is(why + ", turned(" + p + ", 0, 4)", x.turned(p, 0, 4), (long) (8 * least));
  }

  private static void noPieceAtFirst() {
    due.about("16 to 22 there is no such piece, nor any");
    for (int p : new int[] {-1, 0, 1, 120}) allRefuse("none", new RopeWalk(), p);
  }

  private static void noPiece() {
    due.about("16 to 22 there is no such piece");
    RopeWalk x = new RopeWalk();
    x.yarn(5, 8);
    for (int p : FAR) allRefuse("far", x, p);
    allRefuse("one behind the last", x, 1);
    allAnswer("the last", x, 0, 1.0);
  }

  private static void lastPiece() {
    due.about("16 to 22 there is no such piece, of 120");
    RopeWalk x = new RopeWalk();
    for (int p = 0; p < 120; p++) x.yarn(5, p);
    allAnswer("the first", x, 0, 0.0);
    allAnswer("the last", x, 119, 14.875);
    allRefuse("behind it", x, 120);
  }

  private static void gone() {
    due.about("16 to 22 it is gone");
    RopeWalk x = new RopeWalk();
    int s = Make.strand(x, 5, 8, Make.LEFT);
    allAnswer("not yet", x, s, 1.75);
    x.untwist(s);
    allRefuse("gone", x, s);
    allAnswer("its part", x, 1, 1.0);
    int t = Make.splice(x, 5, 8, Make.LEFT);
    x.untwist(t);
    allRefuse("a splice", x, t);
  }

  private static void laidAndHung() {
    due.about("16 to 22 a piece that is laid, hung, or picked");
    RopeWalk x = new RopeWalk();
    int s = Make.strand(x, 5, 8, Make.LEFT);
    x.hang(5, s);
    int y = x.yarn(5, 8);
    x.pick(y);
    allAnswer("laid", x, 0, 1.0);
    allAnswer("hung", x, s, 1.75);
    allAnswer("picked", x, y, 1.0);
  }

  private static void bearsPlaces() {
    due.about("16 or has no such place");
    for (int length : new int[] {1, 2, 7, 2000}) {
      RopeWalk x = new RopeWalk();
      int[] all = Make.eachKind(x, length, 16, Make.RIGHT);
      for (int p : all) {
        for (int at : new int[] {Integer.MIN_VALUE, -1, length, length + 1, Integer.MAX_VALUE}) {
          due.isReal("bears(" + p + ", " + at + ")", x.bears(p, at), -2.0);
        }
        due.isReal("the first", x.bears(p, 0), x.least(p));
        due.isReal("the last", x.bears(p, length - 1), x.least(p));
      }
    }
    RopeWalk y = new RopeWalk();
    int s = Make.lay(y, Make.STRAND, Make.LEFT, 400, y.yarn(10, 8), y.yarn(10, 8));
    due.isReal("a place of its part alone", y.bears(s, 6), -2.0);
    due.isReal("its own last place", y.bears(s, 5), 1.75);
    due.isReal("its part's last place", y.bears(0, 9), 1.0);
  }

  private static void bearsDeep() {
    due.about("16 to 19 as deep as 120 pieces can lie in one another");
    RopeWalk x = new RopeWalk();
    int s = Make.rope(x, 20, 8, Make.LEFT);
    for (int n = 2; n <= 11; n++) s = x.splice(s, Make.rope(x, 20, 8 * n, Make.LEFT), 10);
    due.is("the last of 120", s, 119);
    due.is("its length", x.of(s, 1), 120);
    due.is("its weight", x.of(s, 5), 11 * 120);
    // Where two ropes lie side by side, it is the later one that bears more.
    for (int at = 0; at < 120; at++) {
      int rope = Math.min(11, 1 + at / 10);
      due.isReal("bears(s, " + at + ")", x.bears(s, at), rope * Make.ropeBears(8));
    }
    due.isReal("bears(s, 120)", x.bears(s, 120), -2.0);
    Make.wear(x, 0, 3, 3, 0);
    due.is("where its deepest yarn is worn", x.where(s), 3);
    due.isReal("least(s)", x.least(s), Make.ropeBears(8) * 5 / 6);
    due.is("hang(0, s)", x.hang(0, s), 120);
    x.order(6, (int) (8 * Make.ropeBears(8)));
    due.is("cut(0), behind it", x.cut(0), 4);
  }

  // ---- 17, 18 ----

  private static void leastOfNothing() {
    due.about("17 least where nothing is borne");
    RopeWalk x = new RopeWalk();
    int[] all = Make.eachKind(x, 5, 0, Make.LEFT);
    for (int p : all) allAnswer("a strength of 0", x, p, 0.0);
    RopeWalk y = yarn(80000, 0);
    allAnswer("a share of 0", y, 0, 0.0);
    RopeWalk z = yarn(1, 1, 1, 1, 1, 1, 1, 1, 1);
    allAnswer("the least that isn't 0", z, 0, 1.0 / (1 << 27));
  }

  private static void leastOfMost() {
    due.about("17, 19 the most that a piece can bear");
    RopeWalk x = new RopeWalk();
    int[] ropes = new int[3];
    for (int r = 0; r < 3; r++) {
      int[] strands = new int[4];
      for (int s = 0; s < 4; s++) {
        int[] yarns = new int[8];
        for (int k = 0; k < 8; k++) yarns[k] = x.yarn(2000, 80000);
        strands[s] = Make.lay(x, Make.STRAND, Make.LEFT, 0, yarns);
        due.isReal("a strand", x.least(strands[s]), 70000.0);
      }
      ropes[r] = Make.lay(x, Make.ROPE, Make.RIGHT, 0, strands);
      due.isReal("a rope", x.least(ropes[r]), 210000.0);
    }
    int c = Make.lay(x, Make.CABLE, Make.LEFT, 0, ropes);
    due.isReal("a cable", x.least(c), 393750.0);
    due.is("its grams, as a float", x.grams(c), (long) (393750.0f * 1000.0f));
    due.is("which a double would tell otherwise", x.grams(c), 393750016L);
    due.isReal("rest(c, 80000)", x.rest(c, 80000), 3750.0);
    due.isReal("rest(c, 1)", x.rest(c, 1), 0.0);
    due.isReal("left(c, 1000000)", x.left(c, 1000000), 393750.0 % (1000000 / 1024.0));
    due.isReal("left(c, 1)", x.left(c, 1), 0.0);
    due.is("turned(c, 0, 0)", x.turned(c, 0, 0), 393750);
    due.is("turned(c, 80000, 9)", x.turned(c, 80000, 9), 8 * 383750);
  }

  private static void leastOnOnePlace() {
    due.about("17 what it bears at the weakest place");
    for (int at : new int[] {0, 1, 1000, 1998, 1999}) {
      for (int length : new int[] {2000, at + 1}) {
        RopeWalk x = new RopeWalk();
        Make.wornYarn(x, length, 64, at, at, 3);
        due.isReal("at " + at + " of " + length, x.least(0), 3.0);
        due.is("where", x.where(0), at);
      }
      if (at == 0) continue;
      RopeWalk y = new RopeWalk();
      Make.wornYarn(y, at, 64, at, at, 3);
      due.isReal("just behind the last place", y.least(0), 8.0);
      due.is("where", y.where(0), 0);
    }
  }

  private static void leastOfWorn() {
    due.about("17 where spots meet");
    RopeWalk x = new RopeWalk();
    x.yarn(30, 64);
    x.row(0, 3);
    x.spot(0, 0, 5, 10, 4);
    x.spot(0, 1, 10, 15, 4);
    due.isReal("on one place", x.least(0), 2.0);
    due.is("where", x.where(0), 10);
    x.spot(0, 1, 11, 15, 4);
    due.isReal("on none", x.least(0), 4.0);
    due.is("where", x.where(0), 5);
    x.spot(0, 1, 0, 29, 4);
    due.isReal("one within the other", x.least(0), 2.0);
    due.is("where", x.where(0), 5);
    x.spot(0, 2, 10, 10, 7);
    due.isReal("three", x.least(0), 1.75);
    due.is("where", x.where(0), 10);
    x.spot(0, 2, 10, 10, 8);
    due.is("a share of 8 wears nothing", x.where(0), 5);
    x.spot(0, 2, 0, 29, 0);
    due.is("nothing anywhere", x.where(0), 0);
  }

  private static void whereOnOnePlace() {
    due.about("18 the only place");
    RopeWalk x = new RopeWalk();
    for (int p : Make.eachKind(x, 1, 8, Make.LEFT)) {
      due.is("where(" + p + ")", x.where(p), 0);
      Make.wear(x, p, 0, 0, 0);
      due.is("worn, where(" + p + ")", x.where(p), 0);
      due.isReal("worn, least(" + p + ")", x.least(p), 0.0);
    }
  }

  private static void whereBetweenSpots() {
    due.about("18 the first, where no spot wears");
    RopeWalk x = new RopeWalk();
    int a = Make.wornYarn(x, 20, 64, 0, 8, 6);
    int b = Make.wornYarn(x, 20, 64, 0, 8, 8);
    int s = Make.lay(x, Make.STRAND, Make.LEFT, 0, a, b);
    due.is("0 to 8", x.where(s), 0);
    x.spot(a, 0, 9, 19, 4);
    due.is("9 to 19", x.where(s), 9);
    x.row(b, 2);
    x.spot(b, 0, 0, 8, 4);
    due.is("as much before", x.where(s), 0);
    x.spot(b, 0, 1, 8, 4);
    due.is("0 alone is whole", x.where(s), 1);
    x.spot(b, 1, 9, 9, 7);
    due.is("9 is worn twice", x.where(s), 9);
    x.spot(b, 1, 12, 12, 7);
    due.is("12 is worn twice", x.where(s), 12);
    x.spot(b, 1, 18, 2000, 7);
    due.is("18 on", x.where(s), 18);
  }

  private static void whereInParts() {
    due.about("18 the place on the whole, not on the part");
    int[][] want = {{100, 0, 0}, {100, 1, 1}, {100, 50, 50}, {100, 99, 99}, {200, 1, -1}, {200, 2, 1}, {200, 198, 99},
        {200, 199, -1}, {150, 1, 1}, {150, 2, -1}, {150, 3, 2}, {150, 148, 99}, {150, 149, -1}, {101, 100, -1},
        {101, 99, 99}, {2000, 1980, 99}, {2000, 1981, -1}, {2000, 20, 1}, {2000, 19, -1}};
    for (int[] w : want) {
      RopeWalk x = new RopeWalk();
      int a = Make.wornYarn(x, w[0], 64, w[1], w[1], 4);
      int s = Make.lay(x, Make.STRAND, Make.LEFT, 0, a, x.yarn(100, 64));
      due.is(w[1] + " of " + w[0] + " in 100", x.where(s), Math.max(0, w[2]));
      due.isReal("least", x.least(s), w[2] < 0 ? 14.0 : 10.5);
    }
  }

  // ---- 19 ----

  private static void gramsInFloats() {
    due.about("19 times 1000.0f, a float");
    int differ = 0;
    for (int eighths = 79900; eighths < 80000; eighths += 7) {
      RopeWalk x = yarn(eighths, 7, 7, 7);
      float least = eighths * 0.125f * 0.875f * 0.875f * 0.875f;
      due.isReal("least", x.least(0), least);
      due.is("grams(0)", x.grams(0), (long) (least * 1000.0f));
      if ((long) (least * 1000.0f) != (long) (least * 1000.0)) differ++;
    }
    due.holds("a double would tell otherwise", differ > 0);
  }

  private static void gramsCut() {
    due.about("19 cut to a whole number");
    int[][] want = {{0, 0}, {1, 125}, {8, 1000}, {80000, 10000000}};
    for (int[] w : want) due.is("of " + w[0], yarn(w[0]).grams(0), w[1]);
    due.is("1.953125", yarn(1, 1, 1).grams(0), 1);
    due.is("0.244140625", yarn(1, 1, 1, 1).grams(0), 0);
    due.is("0.9765625", yarn(1, 1, 4).grams(0) * 100 + yarn(1, 1, 4, 1).grams(0), 700);
    due.is("a share of 0", yarn(80000, 0).grams(0), 0);
    due.is("511999.97", below512().grams(0), 511999);
  }

  // ---- 20, 21 ----

  private static void restEighths() {
    due.about("20 the eighths are not 1 .. 80000");
    RopeWalk x = yarn(14);
    for (int e : new int[] {Integer.MIN_VALUE, -8, -1, 0, 80001, 1000000, Integer.MAX_VALUE}) {
      due.isReal("rest(0, " + e + ")", x.rest(0, e), -2.0);
    }
    due.isReal("rest(0, 1)", x.rest(0, 1), 0.0);
    due.isReal("rest(0, 80000)", x.rest(0, 80000), 1.75);
    RopeWalk y = yarn(80000);
    due.isReal("all of it", y.rest(0, 80000), 0.0);
    due.isReal("but an eighth", y.rest(0, 79999), 0.125);
    due.isReal("no piece, 0", y.rest(1, 0), -2.0);
  }

  private static void restAsOften() {
    due.about("20 taken away as often as they can be");
    for (int e = 1; e <= 30; e++) {
      RopeWalk x = yarn(e);
      due.isReal("once, to nothing", x.rest(0, e), 0.0);
      due.isReal("not once", x.rest(0, e + 1), e * 0.125);
      if (e > 1) due.isReal("less than it", x.rest(0, e - 1), e % (e - 1) * 0.125);
      RopeWalk y = yarn(2 * e);
      due.isReal("twice, to nothing", y.rest(0, e), 0.0);
      RopeWalk z = yarn(3 * e - 1);
      due.isReal("twice, not thrice", z.rest(0, e), (e - 1) * 0.125);
    }
  }

  private static void restNearSteps() {
    due.about("20 where LEAST is nearly so many steps");
    RopeWalk x = below512();
    due.isReal("LEAST", x.least(0), BELOW_512);
    due.isReal("by 512", x.rest(0, 4096), BELOW_512);
    due.isReal("by 256", x.rest(0, 2048), BELOW_512 - 256.0);
    due.isReal("by 64", x.rest(0, 512), BELOW_512 - 448.0);
    due.isReal("by 0.125", x.rest(0, 1), BELOW_512 - 511.875);
    due.isReal("by 511.875", x.rest(0, 4095), BELOW_512 - 511.875);
    RopeWalk y = aboveSteps();
    due.isReal("a little above, LEAST", y.least(0 + 2), 0.875 + 7.0 / (1 << 24));
    due.isReal("by 0.875", y.rest(2, 7), 7.0 / (1 << 24));
    due.isReal("by 0.125", y.rest(2, 1), 7.0 / (1 << 24));
    due.isReal("by 1", y.rest(2, 8), 0.875 + 7.0 / (1 << 24));
  }

  /** Piece 2 bears 0.875 and a little more. */
  private static RopeWalk aboveSteps() {
    RopeWalk x = yarn(1, 1, 1, 1, 1, 1, 1);
    x.yarn(3, 8);
    Make.lay(x, Make.STRAND, Make.LEFT, 0, 0, 1);
    return x;
  }

  private static void restOfNothing() {
    due.about("20 of nothing");
    for (int e : new int[] {1, 8, 80000}) {
      due.isReal("rest(0, " + e + ")", yarn(0).rest(0, e), 0.0);
      due.isReal("of a tiny one", yarn(1, 1, 1, 1, 1, 1, 1, 1, 1).rest(0, e), 1.0 / (1 << 27));
    }
  }

  private static void leftThousandths() {
    due.about("21 the number is not 1 .. 1000000");
    RopeWalk x = yarn(14);
    for (int t : new int[] {Integer.MIN_VALUE, -8, -1, 0, 1000001, Integer.MAX_VALUE}) {
      due.isReal("left(0, " + t + ")", x.left(0, t), -2.0);
    }
    due.isReal("left(0, 1)", x.left(0, 1), 0.0);
    due.isReal("left(0, 1000000)", x.left(0, 1000000), 1.75);
    due.isReal("left(0, 80001)", x.left(0, 80001), 1.75);
    RopeWalk y = yarn(80000);
    due.isReal("10000 by 976.5625", y.left(0, 1000000), 10000 - 10 * 976.5625);
    due.isReal("10000 by the step below", y.left(0, 999999), 10000 - 10 * (999999 / 1024.0));
    due.isReal("no piece, 0", y.left(1, 0), -2.0);
  }

  private static void leftAsOften() {
    due.about("21 taken away as often as they can be");
    for (int e = 1; e <= 20; e++) {
      RopeWalk x = yarn(e);
      due.isReal("once, to nothing", x.left(0, 128 * e), 0.0);
      due.isReal("not once", x.left(0, 128 * e + 1), e * 0.125);
      due.isReal("once", x.left(0, 128 * e - 1), 1.0 / 1024);
      due.isReal("twice, to nothing", x.left(0, 64 * e), 0.0);
      due.isReal("once, not twice", x.left(0, 64 * e + 1), e * 0.125 - (64 * e + 1) / 1024.0);
    }
  }

  private static void leftNearSteps() {
    due.about("21 where LEAST is nearly so many steps");
    RopeWalk x = below512();
    due.isReal("by 512", x.left(0, 524288), BELOW_512);
    due.isReal("by 256", x.left(0, 262144), BELOW_512 - 256.0);
    due.isReal("by 1 / 1024", x.left(0, 1), 31.0 / 32768);
    due.isReal("by 3 / 1024", x.left(0, 3), BELOW_512 % (3 / 1024.0));
    RopeWalk y = aboveSteps();
    due.isReal("by 0.875", y.left(2, 896), 7.0 / (1 << 24));
    due.isReal("by 1 / 1024", y.left(2, 1), 7.0 / (1 << 24));
    due.isReal("by more", y.left(2, 897), 0.875 + 7.0 / (1 << 24));
  }

  private static void leftOfNothing() {
    due.about("21 of nothing");
    for (int t : new int[] {1, 1024, 1000000}) {
      due.isReal("left(0, " + t + ")", yarn(0).left(0, t), 0.0);
      due.isReal("of a tiny one", yarn(1, 1, 1, 1, 1, 1, 1, 1, 1).left(0, t), 1.0 / (1 << 27));
    }
  }

  // ---- 22 ----

  private static void turnedEighths() {
    due.about("22 the eighths are not 0 .. 80000");
    RopeWalk x = yarn(80);
    for (int how = 0; how <= 12; how++) {
      for (int e : new int[] {Integer.MIN_VALUE, -1, 80001, 800000, Integer.MAX_VALUE}) {
        due.is("turned(0, " + e + ", " + how + ")", x.turned(0, e, how), -1000000L);
      }
    }
    due.is("turned(0, 0, 0)", x.turned(0, 0, 0), 10);
    due.is("turned(0, 80000, 0)", x.turned(0, 80000, 0), -9990);
    due.is("turned(0, 0, 9)", x.turned(0, 0, 9), 80);
    due.is("turned(0, 80000, 9)", x.turned(0, 80000, 9), 79920);
  }

  private static void turnedHows() {
    due.about("22 there is no such how");
    RopeWalk x = yarn(12);
    for (int how : new int[] {Integer.MIN_VALUE, -2, -1, 13, 14, Integer.MAX_VALUE}) {
      due.is("turned(0, 0, " + how + ")", x.turned(0, 0, how), -1000000L);
    }
    hows(x, 0, 0, new long[] {1, 2, 2, 1, 12, 12, 2, 2});
  }

  private static void turnedWrongAlike() {
    due.about("22 more than one thing is wrong");
    RopeWalk x = yarn(12);
    due.is("all", x.turned(1, -1, 13), -1000000L);
    due.is("no piece, no how", x.turned(-1, 0, -1), -1000000L);
    due.is("eighths and how", x.turned(0, 80001, 13), -1000000L);
  }

  /** What how 0 to 7 answer, and 8 to 12 as 3 to 7. */
  private static void hows(RopeWalk x, int p, int eighths, long[] want) {
    for (int how = 0; how <= 12; how++) {
      due.is("turned(" + p + ", " + eighths + ", " + how + ")", x.turned(p, eighths, how), want[how < 8 ? how : how - 5]);
    }
  }

  private static void turnedAtZero() {
    due.about("22 D is 0");
    long[] zero = {0, 0, 0, 0, 0, 2, 0, 2};
    for (int e : new int[] {0, 1, 8, 79999, 80000}) hows(yarn(e), 0, e, zero);
    hows(yarn(80000, 0), 0, 0, zero);
  }

  private static void turnedAtWhole() {
    due.about("22 D is a whole number");
    hows(yarn(16), 0, 8, new long[] {1, 1, 1, 1, 8, 8, 2, 2});
    hows(yarn(8), 0, 16, new long[] {-1, -1, -1, -1, 8, 2, -8, -2});
    hows(yarn(24), 0, 0, new long[] {3, 3, 3, 1, 24, 24, 2, 2});
    hows(yarn(0), 0, 80000, new long[] {-10000, -10000, -10000, -1, 80000, 2, -80000, -2});
    hows(yarn(80000), 0, 0, new long[] {10000, 10000, 10000, 1, 80000, 80000, 2, 2});
  }

  private static void turnedAtHalf() {
    due.about("22 of two the even one");
    long[] nearest = {-2, -2, 0, 0, 2, 2};
    for (int n = 0; n < 6; n++) {
      int d = 8 * n - 20;
      RopeWalk x = d > 0 ? yarn(d) : yarn(0);
      due.is("nearest to " + d / 8.0, x.turned(0, d > 0 ? 0 : -d, 2), nearest[n]);
    }
    hows(yarn(4), 0, 0, new long[] {0, 1, 0, 1, 4, 4, 2, 2});
    hows(yarn(12), 0, 0, new long[] {1, 2, 2, 1, 12, 12, 2, 2});
    hows(yarn(4), 0, 8, new long[] {-1, 0, 0, -1, 4, 2, -4, -2});
    hows(yarn(4), 0, 16, new long[] {-2, -1, -2, -1, 12, 2, -12, -2});
    due.is("nearest to 9999.5", yarn(79996).turned(0, 0, 2), 10000);
    due.is("nearest to -9999.5", yarn(4).turned(0, 80000, 2), -10000);
    due.is("nearest to 9998.5", yarn(79988).turned(0, 0, 2), 9998);
    due.is("nearest to -9998.5", yarn(12).turned(0, 80000, 2), -9998);
  }

  private static void turnedNearWhole() {
    due.about("22 D is nearly a whole number");
    RopeWalk x = below512();
    hows(x, 0, 0, new long[] {511, 512, 512, 1, 4095, 4095, 2, 2});
    hows(x, 0, 4096, new long[] {-1, 0, 0, -1, 0, 2, 0, -2});
    hows(x, 0, 4088, new long[] {0, 1, 1, 1, 7, 7, 2, 2});
    RopeWalk tiny = yarn(1, 1, 1, 1, 1, 1, 1, 1, 1);
    hows(tiny, 0, 0, new long[] {0, 1, 0, 1, 0, 2, 0, 2});
    due.is("a little above -1: not above", tiny.turned(0, 8, 0), -1);
    due.is("a little above -1: not below", tiny.turned(0, 8, 1), 0);
    due.is("a little above -1: nearest", tiny.turned(0, 8, 2), -1);
  }

  private static void turnedNearHalf() {
    due.about("22 D is nearly a half");
    RopeWalk x = below512();
    due.is("below 0.5", x.turned(0, 4092, 2), 0);
    due.is("below 1.5", x.turned(0, 4084, 2), 1);
    due.is("below -0.5", x.turned(0, 4100, 2), -1);
    due.is("below -1.5", x.turned(0, 4108, 2), -2);
    RopeWalk tiny = yarn(1, 1, 1, 1, 1, 1, 1, 1, 1);
    due.is("above -0.5", tiny.turned(0, 4, 2), 0);
    due.is("above -1.5", tiny.turned(0, 12, 2), -1);
    due.is("above -2.5", tiny.turned(0, 20, 2), -2);
    RopeWalk y = aboveSteps();
    due.is("above 0.5", y.turned(2, 3, 2), 1);
    due.is("above -0.5", y.turned(2, 11, 2), 0);
  }

  private static void turnedAtQuarter() {
    due.about("22 the greater, the lesser one of D and 0.25");
    for (int d = -6; d <= 6; d++) {
      RopeWalk x = d > 0 ? yarn(d) : yarn(0);
      int e = d > 0 ? 0 : -d;
      for (int how = 5; how <= 10; how += 5) due.is("greater of " + d, x.turned(0, e, how), Math.max(d, 2));
      for (int how = 6; how <= 11; how += 5) due.is("lesser of " + d, x.turned(0, e, how), Math.min(d, 2));
    }
  }

  private static void turnedNearQuarter() {
    due.about("22 D is nearly 0.25");
    RopeWalk x = yarn(3, 7);
    for (int how = 5; how <= 10; how += 5) due.is("greater of 0.328125", x.turned(0, 0, how), 2);
    for (int how = 6; how <= 11; how += 5) due.is("lesser of 0.328125", x.turned(0, 0, how), 2);
    RopeWalk y = yarn(5, 3);
    for (int how = 5; how <= 10; how += 5) due.is("greater of 0.234375", y.turned(0, 0, how), 2);
    for (int how = 6; how <= 11; how += 5) due.is("lesser of 0.234375", y.turned(0, 0, how), 1);
    RopeWalk z = yarn(7, 7);
    for (int how = 5; how <= 10; how += 5) due.is("greater of 0.390625", z.turned(0, 3, how), 3);
    for (int how = 6; how <= 11; how += 5) due.is("lesser of 0.390625", z.turned(0, 3, how), 2);
  }

  private static void turnedCut() {
    due.about("22 all of it cut to a whole number (towards 0)");
    RopeWalk x = yarn(1, 7);
    due.is("8 * 0.109375", x.turned(0, 0, 4), 0);
    due.is("8 * -0.015625, without its sign", x.turned(0, 1, 4), 0);
    due.is("8 * -0.015625", x.turned(0, 1, 6), 0);
    due.is("8 * -0.140625, without its sign", x.turned(0, 2, 4), 1);
    due.is("8 * -0.140625", x.turned(0, 2, 6), -1);
    due.is("8 * 0.109375, in floats", x.turned(0, 0, 9), 0);
    due.is("8 * -0.015625, in floats, without its sign", x.turned(0, 1, 9), 0);
    due.is("8 * -0.015625, in floats", x.turned(0, 1, 11), 0);
    due.is("8 * -0.140625, in floats, without its sign", x.turned(0, 2, 9), 1);
    due.is("8 * -0.140625, in floats", x.turned(0, 2, 11), -1);
    hows(x, 0, 1, new long[] {-1, 0, 0, -1, 0, 2, 0, -2});
  }

  private static void turnedFar() {
    due.about("22 the most eighths");
    RopeWalk tiny = yarn(1, 1, 1, 1, 1, 1, 1, 1, 1);
    due.is("in doubles, without its sign", tiny.turned(0, 80000, 4), 79999);
    due.is("in floats, without its sign", tiny.turned(0, 80000, 9), 80000);
    due.is("in doubles, the lesser one", tiny.turned(0, 80000, 6), -79999);
    due.is("in floats, the lesser one", tiny.turned(0, 80000, 11), -80000);
    due.is("not above", tiny.turned(0, 80000, 0), -10000);
    due.is("not below", tiny.turned(0, 80000, 1), -9999);
    due.is("nearest", tiny.turned(0, 80000, 2), -10000);
  }

  private static void turnedInFloats() {
    due.about("22 how 8 to 12 in floats");
    for (int e = 1; e <= 80000; e += 977) {
      RopeWalk x = yarn(7, 7, 7, 5, 7);
      float least = 7 * 0.125f * 0.875f * 0.875f * 0.625f * 0.875f;
      float f = least - e * 0.125f;
      double d = (double) least - e * 0.125;
      due.is("doubles, without its sign", x.turned(0, e, 4), (long) (8 * Math.abs(d)));
      due.is("floats, without its sign", x.turned(0, e, 9), (long) (8 * Math.abs(f)));
      due.is("doubles, the lesser one", x.turned(0, e, 6), (long) (8 * Math.min(d, 0.25)));
      due.is("floats, the lesser one", x.turned(0, e, 11), (long) (8 * Math.min(f, 0.25f)));
    }
  }
}
