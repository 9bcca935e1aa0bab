/** The edges that promises 12 to 15 name, one test for each of their sentences. */
public final class EdgesOfWearTest {
  private static final int[] FAR = {Integer.MIN_VALUE, -1, 120, Integer.MAX_VALUE};

  private static final Due due = new Due();

  public static void main(String[] args) {
    rowNoPiece();
    rowGone();
    rowSpots();
    rowAskedFirst();
    rowIsNew();
    rowOfLaidAndHung();
    loseNoPiece();
    loseGone();
    loseAnswers();
    loseOfLaidAndHung();
    spotNoPiece();
    spotGone();
    spotPlaces();
    spotEighths();
    spotNoRow();
    spotNoSpot();
    spotAskedFirst();
    spotAnswers();
    spotToldOverTold();
    carryNoPiece();
    carryGone();
    carryNoRow();
    carryBelowZero();
    carryAboveTheRow();
    carryAskedFirst();
    carryNothing();
    carryAll();
    carryUntold();
    carryAsTheyWere();
    carryAnswers();
    due.end();
  }

  private static RopeWalk yarns(int count, int length, int eighths) {
    RopeWalk x = new RopeWalk();
    for (int p = 0; p < count; p++) x.yarn(length, eighths);
    return x;
  }

  // ---- 12 ----

  private static void rowNoPiece() {
    due.about("12 there is no such piece");
    RopeWalk x = yarns(2, 5, 8);
    for (int p : FAR) due.is("row(" + p + ", 1)", x.row(p, 1), -2);
    due.is("row(2, 1)", x.row(2, 1), -2);
    due.is("row(1, 1)", x.row(1, 1), 1);
    RopeWalk y = Scene.full();
    due.is("row(119, 8) of 120", y.row(119, 8), 8);
    due.is("row(120, 8) of 120", y.row(120, 8), -2);
  }

  private static void rowGone() {
    due.about("12 it is gone");
    RopeWalk x = new RopeWalk();
    int p = Make.gone(x, 5, 8);
    for (int n = -1; n <= 9; n++) due.is("row(p, " + n + ")", x.row(p, n), -2);
    due.is("without a row still", x.of(p, 7), -1);
    due.is("its part", x.row(0, 3), 3);
  }

  private static void rowSpots() {
    due.about("12 -2 when n is above 8; -13 when n is below 0");
    RopeWalk x = yarns(1, 5, 8);
    int[] counts = {Integer.MIN_VALUE, -2, -1, 9, 10, Integer.MAX_VALUE};
    for (int n : counts) due.is("row(0, " + n + ")", x.row(0, n), n < 0 ? -13 : -2);
    due.is("without a row still", x.of(0, 7), -1);
    for (int n = 0; n <= 8; n++) {
      due.is("row(0, " + n + ")", x.row(0, n), n);
      for (int wrong : counts) due.is("row(0, " + wrong + ")", x.row(0, wrong), wrong < 0 ? -13 : -2);
      due.is("the row of before", x.of(0, 7), n);
    }
  }

  private static void rowAskedFirst() {
    due.about("12 what is asked first");
    RopeWalk x = yarns(1, 5, 8);
    for (int n : new int[] {Integer.MIN_VALUE, -1}) {
      for (int p : FAR) due.is("no piece, below 0", x.row(p, n), -2);
      due.is("no piece, below 0", x.row(1, n), -2);
      due.is("a piece, below 0", x.row(0, n), -13);
    }
    int p = Make.gone(x, 5, 8);
    due.is("gone, below 0", x.row(p, -1), -2);
  }

  private static void rowIsNew() {
    due.about("12 a new row of n spots, untold");
    RopeWalk x = yarns(1, 5, 8);
    x.row(0, 8);
    for (int i = 0; i < 8; i++) x.spot(0, i, 0, 4, 4);
    due.isReal("worn", x.least(0), 1.0 / 256);
    due.is("row(0, 3)", x.row(0, 3), 3);
    due.isReal("worn no more", x.least(0), 1.0);
    due.is("row(0, 8)", x.row(0, 8), 8);
    due.isReal("nor by those of before", x.least(0), 1.0);
    for (int i = 0; i < 8; i++) due.is("untold", x.spot(0, i, 0, 4, 4), 0);
    due.is("row(0, 0)", x.row(0, 0), 0);
    due.isReal("of no spots", x.least(0), 1.0);
    due.is("a row of no spots is one", x.lose(0), 1);
    due.is("row(0, 8)", x.row(0, 8), 8);
    for (int i = 0; i < 8; i++) due.is("untold behind lose()", x.spot(0, i, 0, 4, -1), 0);
  }

  private static void rowOfLaidAndHung() {
    due.about("12 a piece that is laid or hung has a row, too");
    RopeWalk x = new RopeWalk();
    int s = Make.strand(x, 5, 8, Make.LEFT);
    x.hang(0, s);
    due.is("laid", x.row(0, 1), 1);
    due.is("hung", x.row(s, 8), 8);
    due.is("told, laid", x.spot(0, 0, 2, 2, 4), 0);
    due.is("told, hung", x.spot(s, 7, 2, 3, 4), 0);
    due.isReal("both wear", x.bears(s, 2), 1.5 * 0.875 / 2);
    due.isReal("one wears", x.bears(s, 3), 1.75 / 2);
    due.is("picked", x.pick(x.yarn(5, 8)), 1);
    due.is("picked, its row", x.row(3, 2), 2);
  }

  // ---- 13 ----

  private static void loseNoPiece() {
    due.about("13 there is no such piece");
    RopeWalk x = yarns(2, 5, 8);
    for (int p : FAR) due.is("lose(" + p + ")", x.lose(p), -2);
    due.is("lose(2)", x.lose(2), -2);
    due.is("lose(1)", x.lose(1), 0);
  }

  private static void loseGone() {
    due.about("13 or it is gone");
    RopeWalk x = new RopeWalk();
    int p = Make.strand(x, 5, 8, Make.LEFT);
    x.row(p, 4);
    x.row(0, 2);
    x.untwist(p);
    due.is("lose(p)", x.lose(p), -2);
    due.is("its row still", x.of(p, 7), 4);
    due.is("its part's", x.lose(0), 1);
    due.is("gone without a row", x.lose(Make.gone(x, 5, 8)), -2);
  }

  private static void loseAnswers() {
    due.about("13 1 if it had one, else 0");
    RopeWalk x = yarns(1, 5, 8);
    due.is("at first", x.lose(0), 0);
    for (int n = 0; n <= 8; n++) {
      x.row(0, n);
      due.is("of " + n, x.lose(0), 1);
      due.is("of(0, 7)", x.of(0, 7), -1);
      due.is("again", x.lose(0), 0);
      due.is("no row", x.spot(0, 0, 0, 0, 1), -10);
    }
    x.row(0, 2);
    x.spot(0, 1, 0, 4, 0);
    x.lose(0);
    due.isReal("it wears no more", x.least(0), 1.0);
  }

  private static void loseOfLaidAndHung() {
    due.about("13 a piece that is laid or hung");
    RopeWalk x = new RopeWalk();
    int s = Make.strand(x, 5, 8, Make.LEFT);
    Make.wear(x, 0, 0, 4, 0);
    Make.wear(x, s, 0, 4, 0);
    x.hang(0, s);
    due.is("laid", x.lose(0), 1);
    due.is("hung", x.lose(s), 1);
    due.isReal("they wear no more", x.least(s), 1.75);
  }

  // ---- 14 ----

  private static void spotNoPiece() {
    due.about("14 there is no such piece");
    RopeWalk x = yarns(2, 5, 8);
    x.row(0, 1);
    x.row(1, 1);
    for (int p : FAR) due.is("spot(" + p + ", ..)", x.spot(p, 0, 0, 0, 1), -2);
    due.is("spot(2, ..)", x.spot(2, 0, 0, 0, 1), -2);
    due.is("spot(1, ..)", x.spot(1, 0, 0, 0, 1), 0);
  }

  private static void spotGone() {
    due.about("14 it is gone");
    RopeWalk x = new RopeWalk();
    int p = Make.strand(x, 5, 8, Make.LEFT);
    x.row(p, 4);
    x.untwist(p);
    for (int e = -2; e <= 9; e++) due.is("with a row, " + e, x.spot(p, 0, 0, 0, e), -2);
    due.is("no such spot", x.spot(p, 4, 0, 0, 1), -2);
    due.is("without a row", x.spot(Make.gone(x, 5, 8), 0, 0, 0, 1), -2);
  }

  private static void spotPlaces() {
    due.about("14 from or to is not 0 .. 2000 (with eighths -1, too)");
    int[] places = {Integer.MIN_VALUE, -1, 0, 1, 1999, 2000, 2001, Integer.MAX_VALUE};
    for (int eighths : new int[] {-1, 0, 8}) {
      for (int from : places) {
        for (int to : places) {
          RopeWalk x = yarns(1, 5, 8);
          x.row(0, 1);
          boolean may = from >= 0 && from <= 2000 && to >= 0 && to <= 2000;
          due.is("spot(0, 0, " + from + ", " + to + ", " + eighths + ")", x.spot(0, 0, from, to, eighths), may ? 0 : -2);
          due.is("told", x.spot(0, 0, 0, 0, -1), may && eighths >= 0 ? 1 : 0);
        }
      }
    }
  }

  private static void spotEighths() {
    due.about("14 or the eighths are not -1 .. 8");
    for (int e : new int[] {Integer.MIN_VALUE, -3, -2, -1, 0, 1, 7, 8, 9, 10, Integer.MAX_VALUE}) {
      RopeWalk x = yarns(1, 5, 8);
      x.row(0, 1);
      boolean may = e >= -1 && e <= 8;
      due.is("spot(.., " + e + ")", x.spot(0, 0, 0, 4, e), may ? 0 : -2);
      due.isReal("it bears", x.least(0), may && e >= 0 ? e * 0.125 : 1.0);
      due.is("told", x.spot(0, 0, 0, 0, -1), may && e >= 0 ? 1 : 0);
    }
  }

  private static void spotNoRow() {
    due.about("14 -10 without a row");
    RopeWalk x = yarns(2, 5, 8);
    for (int i : new int[] {Integer.MIN_VALUE, -1, 0, 7, 8, Integer.MAX_VALUE}) {
      for (int e = -1; e <= 8; e++) due.is("spot(0, " + i + ", .., " + e + ")", x.spot(0, i, 0, 0, e), -10);
    }
    x.row(0, 8);
    due.is("of the other one", x.spot(1, 0, 0, 0, 1), -10);
    due.is("with one", x.spot(0, 0, 0, 0, 1), 0);
    x.lose(0);
    due.is("lost", x.spot(0, 0, 0, 0, 1), -10);
  }

  private static void spotNoSpot() {
    due.about("14 -11 when it has no such spot");
    for (int n = 0; n <= 8; n++) {
      RopeWalk x = yarns(1, 5, 8);
      x.row(0, n);
      for (int i : new int[] {Integer.MIN_VALUE, -1, n, n + 1, Integer.MAX_VALUE}) {
        due.is("spot(0, " + i + ") of " + n, x.spot(0, i, 0, 4, 0), -11);
        due.is("untold, spot(0, " + i + ") of " + n, x.spot(0, i, 0, 4, -1), -11);
      }
      due.isReal("nothing is worn", x.least(0), 1.0);
      if (n > 0) due.is("the first", x.spot(0, 0, 4, 4, 1), 0);
      if (n > 1) due.is("the last", x.spot(0, n - 1, 3, 3, 2), 0);
      due.isReal("at 4", x.bears(0, 4), n > 0 ? 0.125 : 1.0);
      due.isReal("at 3", x.bears(0, 3), n > 1 ? 0.25 : 1.0);
    }
  }

  private static void spotAskedFirst() {
    due.about("14 what is asked first");
    RopeWalk x = yarns(2, 5, 8);
    x.row(1, 1);
    int[][] wrong = {{-1, 0, 1}, {2001, 0, 1}, {0, -1, 1}, {0, 2001, 1}, {0, 0, -2}, {0, 0, 9}, {-1, 0, -1}, {0, 2001, -1}};
    for (int[] w : wrong) {
      due.is("no row, wrong", x.spot(0, 0, w[0], w[1], w[2]), -2);
      due.is("no row, no such spot, wrong", x.spot(0, 9, w[0], w[1], w[2]), -2);
      due.is("no such spot, wrong", x.spot(1, 1, w[0], w[1], w[2]), -2);
      due.is("below 0, wrong", x.spot(1, -1, w[0], w[1], w[2]), -2);
      due.is("no piece, wrong", x.spot(2, 0, w[0], w[1], w[2]), -2);
    }
    due.is("no piece, no such spot", x.spot(2, 9, 0, 0, 1), -2);
    due.is("no row, no such spot", x.spot(0, 9, 0, 0, 1), -10);
    due.is("no row, below 0", x.spot(0, -1, 0, 0, -1), -10);
    due.is("no such spot", x.spot(1, 1, 0, 0, 1), -11);
  }

  private static void spotAnswers() {
    due.about("14 either way 1 if it was told before, else 0");
    RopeWalk x = yarns(1, 5, 8);
    x.row(0, 2);
    int[] eighths = {-1, -1, 0, 0, -1, 8, -1, -1, 3, 8, 0, -1, 0};
    int told = 0;
    for (int e : eighths) {
      due.is("spot(0, 1, .., " + e + ")", x.spot(0, 1, 1, 3, e), told);
      told = e >= 0 ? 1 : 0;
      due.isReal("it bears", x.bears(0, 2), e >= 0 ? e * 0.125 : 1.0);
    }
    due.is("the other one was never told", x.spot(0, 0, 0, 0, 0), 0);
  }

  private static void spotToldOverTold() {
    due.about("14 a spot that is told anew covers what it is told last");
    RopeWalk x = yarns(1, 10, 8);
    x.row(0, 1);
    x.spot(0, 0, 2, 3, 0);
    x.spot(0, 0, 6, 7, 4);
    due.isReal("2", x.bears(0, 2), 1.0);
    due.isReal("6", x.bears(0, 6), 0.5);
    due.is("refused", x.spot(0, 0, 2, 2001, 0), -2);
    due.isReal("2", x.bears(0, 2), 1.0);
    due.isReal("6", x.bears(0, 6), 0.5);
    x.spot(0, 0, 2, 3, -1);
    due.isReal("untold, 2", x.bears(0, 2), 1.0);
    due.isReal("untold, 6", x.bears(0, 6), 1.0);
  }

  // ---- 15 ----

  /** Two yarns with rows of n and m spots, the first one's all told. */
  private static RopeWalk rows(int n, int m) {
    RopeWalk x = yarns(2, 8, 64);
    x.row(0, n);
    x.row(1, m);
    for (int i = 0; i < n; i++) x.spot(0, i, i, i, i);
    return x;
  }

  private static void carryNoPiece() {
    due.about("15 one of them is no piece");
    RopeWalk x = rows(2, 2);
    for (int p : new int[] {Integer.MIN_VALUE, -1, 2, 120, Integer.MAX_VALUE}) {
      due.is("carry(" + p + ", 0, 0, 0, 0)", x.carry(p, 0, 0, 0, 0), -2);
      due.is("carry(0, 0, " + p + ", 0, 0)", x.carry(0, 0, p, 0, 0), -2);
      due.is("carry(" + p + ", 0, " + p + ", 0, 0)", x.carry(p, 0, p, 0, 0), -2);
    }
    due.is("both are", x.carry(0, 0, 1, 0, 2), 2);
  }

  private static void carryGone() {
    due.about("15 or gone");
    RopeWalk x = rows(2, 2);
    int g = Make.strand(x, 5, 8, Make.LEFT);
    x.row(g, 2);
    due.is("not yet", x.carry(g, 0, 1, 0, 2), 0);
    x.untwist(g);
    due.is("the first", x.carry(g, 0, 1, 0, 0), -2);
    due.is("the other", x.carry(0, 0, g, 0, 0), -2);
    due.is("both", x.carry(g, 0, g, 0, 0), -2);
  }

  private static void carryNoRow() {
    due.about("15 -10 when one has no row");
    RopeWalk x = rows(2, 2);
    x.yarn(5, 5);
    for (int n = 0; n < 2; n++) {
      due.is("the first", x.carry(2, 0, 1, 0, n), -10);
      due.is("the other", x.carry(0, 0, 2, 0, n), -10);
      due.is("both", x.carry(2, 0, 2, 0, n), -10);
    }
    x.row(2, 0);
    due.is("a row of none", x.carry(2, 0, 1, 0, 0), 0);
    x.lose(2);
    due.is("lost", x.carry(2, 0, 1, 0, 0), -10);
  }

  private static void carryBelowZero() {
    due.about("15 -11 when i, k or n is below 0");
    for (int w : new int[] {Integer.MIN_VALUE, -8, -1}) {
      RopeWalk x = rows(8, 8);
      due.is("i is " + w, x.carry(0, w, 1, 0, 1), -11);
      due.is("i is " + w + ", n as much", x.carry(0, w, 1, 0, w == Integer.MIN_VALUE ? 8 : -w), -11);
      due.is("k is " + w, x.carry(0, 0, 1, w, 1), -11);
      due.is("n is " + w, x.carry(0, 0, 1, 0, w), -11);
      due.is("n is " + w + " from the end", x.carry(0, 8, 1, 8, w), -11);
      due.is("i and k are", x.carry(0, w, 1, w, 0), -11);
      due.is("all are", x.carry(0, w, 1, w, w), -11);
      due.is("nothing is told there", x.carry(0, 0, 1, 0, 0), 0);
    }
  }

  private static void carryAboveTheRow() {
    due.about("15 or i and n, or k and n, are together above the spots of the row");
    int[][] rows = {{8, 8}, {3, 5}, {5, 3}, {0, 4}, {4, 0}, {0, 0}, {1, 8}};
    for (int[] r : rows) {
      for (int i = 0; i <= r[0] + 1; i++) {
        for (int k = 0; k <= r[1] + 1; k += 1 + r[1] / 3) {
          int most = Math.min(r[0] - i, r[1] - k);
          for (int n : new int[] {Math.max(0, most), Math.max(0, most) + 1, 9}) {
            RopeWalk x = rows(r[0], r[1]);
            int want = n <= most ? n : -11;
            due.is("carry(0, " + i + ", 1, " + k + ", " + n + ") of " + r[0] + ", " + r[1], x.carry(0, i, 1, k, n), want);
          }
        }
      }
    }
    RopeWalk x = rows(8, 8);
    int max = Integer.MAX_VALUE;
    int[][] far = {{max, 0, 0}, {0, max, 0}, {0, 0, max}, {max, 0, max}, {1, 0, max}, {0, 1, max}, {0, max, max},
        {max, max, max}, {max, 0, 1}, {0, max, 1}, {max - 3, 0, 8}, {0, max - 3, 8}};
    for (int[] f : far) {
      due.is("carry(0, " + f[0] + ", 1, " + f[1] + ", " + f[2] + ")", x.carry(0, f[0], 1, f[1], f[2]), -11);
    }
  }

  private static void carryAskedFirst() {
    due.about("15 what is asked first");
    RopeWalk x = rows(2, 2);
    x.yarn(5, 5);
    due.is("no piece, the other has no row, below 0", x.carry(3, -1, 2, -1, -1), -2);
    due.is("no row, the other is no piece", x.carry(2, 0, 3, 0, 0), -2);
    due.is("below 0, the other is no piece", x.carry(0, -1, 3, 0, 0), -2);
    int g = Make.gone(x, 5, 8);
    due.is("gone, the other has no row", x.carry(g, 0, 2, 0, 0), -2);
    due.is("no row, the other is gone", x.carry(2, 0, g, 0, 0), -2);
    due.is("no row, below 0", x.carry(2, -1, 0, 0, 0), -10);
    due.is("the other has no row, above", x.carry(0, 3, 2, 0, 0), -10);
    due.is("rows, above", x.carry(0, 3, 1, 0, 0), -11);
  }

  private static void carryNothing() {
    due.about("15 n is 0");
    for (int i = 0; i <= 8; i++) {
      RopeWalk x = rows(8, 8);
      x.spot(1, 3, 0, 0, 0);
      due.is("from " + i, x.carry(0, i, 1, 8 - i, 0), 1);
      due.is("on itself", x.carry(0, i, 0, 8 - i, 0), 8);
      due.isReal("worn as before", x.bears(1, 0), 0.0);
      due.isReal("nor else", x.bears(1, 1), 8.0);
    }
  }

  private static void carryAll() {
    due.about("15 n is all of both rows");
    RopeWalk x = rows(8, 8);
    x.spot(1, 0, 0, 7, 0);
    due.is("eight", x.carry(0, 0, 1, 0, 8), 8);
    for (int at = 0; at < 8; at++) due.isReal("at " + at, x.bears(1, at), at);
    due.is("on itself", x.carry(0, 0, 0, 0, 8), 8);
    for (int at = 0; at < 8; at++) due.isReal("itself, at " + at, x.bears(0, at), at);
    RopeWalk y = rows(1, 1);
    due.is("one", y.carry(0, 0, 1, 0, 1), 1);
    due.isReal("at 0", y.bears(1, 0), 0.0);
  }

  private static void carryUntold() {
    due.about("15 spots that are untold are copied, too");
    RopeWalk x = rows(8, 8);
    due.is("untold over told", x.carry(1, 0, 0, 2, 3), 5);
    for (int at = 0; at < 8; at++) due.isReal("at " + at, x.bears(0, at), at >= 2 && at <= 4 ? 8.0 : at);
    for (int i = 0; i < 8; i++) due.is("spot " + i, x.spot(0, i, 0, 0, -1), i >= 2 && i <= 4 ? 0 : 1);
    x.spot(0, 0, 5, 6, 4);
    x.spot(0, 0, 5, 6, -1);
    x.spot(1, 1, 0, 7, 4);
    due.is("untold again, over told", x.carry(0, 0, 1, 1, 1), 0);
    due.isReal("worn no more", x.least(1), 8.0);
  }

  private static void carryAsTheyWere() {
    due.about("15 all as they were before");
    for (int i = 0; i <= 5; i++) {
      for (int k = 0; k <= 5; k++) {
        RopeWalk x = rows(8, 8);
        due.is("carry(0, " + i + ", 0, " + k + ", 3)", x.carry(0, i, 0, k, 3), 8);
        for (int at = 0; at < 8; at++) due.isReal("at " + at, x.bears(0, at), bearsBehindCarry(at, i, k));
      }
    }
  }

  /** Told by spots: each covers one place, by as many eighths as its number was. */
  private static double bearsBehindCarry(int at, int i, int k) {
    double borne = 8.0;
    for (int spot = 0; spot < 8; spot++) {
      int was = spot >= k && spot < k + 3 ? spot - k + i : spot;
      if (was == at) borne *= was / 8.0;
    }
    return borne;
  }

  private static void carryAnswers() {
    due.about("15 how many spots of the row of other are told then");
    for (int told = 0; told <= 8; told++) {
      RopeWalk x = rows(8, 8);
      for (int i = 0; i < told; i++) x.spot(1, 7 - i, 2000, 0, 8);
      due.is("told before: " + told, x.carry(0, 0, 1, 0, 4), told <= 4 ? 4 + told : 8);
      due.is("the other way", x.carry(1, 0, 0, 4, 4), 8);
      due.is("none of it", x.carry(0, 0, 1, 0, 0), told <= 4 ? 4 + told : 8);
    }
  }
}
