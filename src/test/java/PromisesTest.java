/** Each promise of the document by itself: ordinary inputs, its edges, and wrong inputs. */
public final class PromisesTest {
  private static final int YARN = 0;
  private static final int STRAND = 1;
  private static final int ROPE = 2;
  private static final int CABLE = 3;
  private static final int TAPE = 4;
  private static final int SPLICE = 5;
  private static final int RIGHT = 1;
  private static final int LEFT = 2;
  private static final int[] NO_PIECES = {-1, Integer.MIN_VALUE, Integer.MAX_VALUE, 120, 119};

  private static final Due due = new Due();

  public static void main(String[] args) {
    newObject();
    yarn();
    tape();
    pick();
    drop();
    lay();
    layRefuses();
    splice();
    untwist();
    of();
    part();
    count();
    row();
    lose();
    spot();
    carry();
    bears();
    bearsSpliced();
    least();
    where();
    grams();
    rest();
    left();
    turned();
    turnedInFloats();
    hang();
    off();
    take();
    order();
    cut();
    join();
    begun();
    fewest();
    stage();
    unstage();
    pull();
    stress();
    due.end();
  }

  // ---- the promises ----

  private static void newObject() {
    due.about("1 new object");
    RopeWalk x = new RopeWalk();
    for (int what = 0; what <= 8; what++) due.is("count(" + what + ")", x.count(what), 0);
    for (int r = 0; r < 6; r++) due.is("off(" + r + ")", x.off(r), -10);
    due.is("of(0, 0)", x.of(0, 0), -2);
    due.is("unstage()", x.unstage(), -2);
    due.is("drop()", x.drop(), 0);
    due.is("begun()", x.begun(), 0);
    due.is("fewest()", x.fewest(), 0);
    RopeWalk y = new RopeWalk();
    y.yarn(5, 5);
    due.is("count(0) of another object", x.count(0), 0);
  }

  private static void yarn() {
    due.about("2 yarn");
    RopeWalk x = new RopeWalk();
    int[][] wrong = {{0, 8}, {-1, 8}, {2001, 8}, {5, -1}, {5, 80001},
        {Integer.MIN_VALUE, 8}, {Integer.MAX_VALUE, 8}, {5, Integer.MIN_VALUE}, {5, Integer.MAX_VALUE}};
    for (int[] w : wrong) due.is("yarn(" + w[0] + ", " + w[1] + ")", x.yarn(w[0], w[1]), -2);
    due.is("count(0)", x.count(0), 0);
    due.is("yarn(1, 0)", x.yarn(1, 0), 0);
    due.is("yarn(2000, 80000)", x.yarn(2000, 80000), 1);
    due.is("of(1, 0)", x.of(1, 0), YARN);
    due.is("of(1, 1)", x.of(1, 1), 2000);
    due.is("of(1, 2)", x.of(1, 2), 0);
    due.is("of(1, 3)", x.of(1, 3), 0);
    due.is("of(1, 4)", x.of(1, 4), 0);
    due.is("of(1, 5)", x.of(1, 5), 2000);
    due.isReal("bears(0, 0)", x.bears(0, 0), 0.0);
    due.isReal("bears(1, 1999)", x.bears(1, 1999), 10000.0);
    for (int p = 2; p < 120; p++) due.is("yarn(3, 3)", x.yarn(3, 3), p);
    due.is("yarn(3, 3), the 121st", x.yarn(3, 3), -2);
    due.is("count(0)", x.count(0), 120);
  }

  private static void tape() {
    due.about("3 tape");
    RopeWalk x = new RopeWalk();
    int[][] wrong = {{0, 8}, {2001, 8}, {5, -1}, {5, 80001}};
    for (int[] w : wrong) due.is("tape(" + w[0] + ", " + w[1] + ")", x.tape(w[0], w[1]), -2);
    due.is("tape(7, 3)", x.tape(7, 3), 0);
    due.is("of(0, 0)", x.of(0, 0), TAPE);
    due.is("of(0, 1)", x.of(0, 1), 7);
    due.is("of(0, 2)", x.of(0, 2), 0);
    due.is("of(0, 5)", x.of(0, 5), 14);
    due.isReal("bears(0, 6)", x.bears(0, 6), 0.1875);
    due.is("tape(2000, 80000)", x.tape(2000, 80000), 1);
    due.is("of(1, 5)", x.of(1, 5), 4000);
    for (int p = 2; p < 120; p++) due.is("tape(1, 0)", x.tape(1, 0), p);
    due.is("tape(1, 0), the 121st", x.tape(1, 0), -2);
  }

  private static void pick() {
    due.about("4 pick");
    RopeWalk x = new RopeWalk();
    for (int p = 0; p < 11; p++) x.yarn(10, 8);
    for (int p : NO_PIECES) due.is("pick(" + p + ")", x.pick(p), -2);
    due.is("pick(11)", x.pick(11), -2);
    due.is("pick(3)", x.pick(3), 1);
    due.is("pick(3) again", x.pick(3), -2);
    due.is("pick(1)", x.pick(1), 2);
    due.is("count(5)", x.count(5), 2);
    due.is("hang(0, 1)", x.hang(0, 1), 10);
    due.is("count(5), also when it isn't free any more", x.count(5), 2);
    due.is("pick(1) hung", x.pick(1), -2);
    due.is("off(0)", x.off(0), 1);
    due.is("pick(1) is picked still", x.pick(1), -2);
    due.is("lay in the order of picking", x.lay(STRAND, RIGHT, 0), 11);
    due.is("part(11, 0)", x.part(11, 0), 3);
    due.is("part(11, 1)", x.part(11, 1), 1);
    due.is("pick(3) laid", x.pick(3), -2);
    due.is("untwist(11)", x.untwist(11), 2);
    due.is("pick(11) gone", x.pick(11), -2);
    for (int p = 0; p < 9; p++) due.is("pick(" + p + ")", x.pick(p), p + 1);
    due.is("pick(9), the tenth", x.pick(9), -2);
    due.is("count(5)", x.count(5), 9);
  }

  private static void drop() {
    due.about("5 drop");
    RopeWalk x = new RopeWalk();
    x.yarn(10, 8);
    x.yarn(10, 8);
    x.pick(0);
    x.pick(1);
    due.is("drop()", x.drop(), 2);
    due.is("drop() again", x.drop(), 0);
    due.is("count(5)", x.count(5), 0);
    due.is("of(0, 3)", x.of(0, 3), 0);
    due.is("pick(1)", x.pick(1), 1);
  }

  private static void lay() {
    due.about("6 lay");
    RopeWalk x = new RopeWalk();
    int a = x.yarn(100, 8);
    int b = x.tape(77, 16);
    int s = Make.lay(x, STRAND, LEFT, 400, a, b);
    due.is("of(2, 0)", x.of(s, 0), STRAND);
    due.is("of(2, 1): 77 * 600 / 1000 cut down", x.of(s, 1), 46);
    due.is("of(2, 2)", x.of(s, 2), LEFT);
    due.is("of(2, 5)", x.of(s, 5), 254);
    due.is("of(0, 3)", x.of(a, 3), 1);
    due.is("of(1, 6)", x.of(b, 6), s);
    due.is("count(5)", x.count(5), 0);
    RopeWalk y = new RopeWalk();
    int[] nine = new int[9];
    for (int p = 0; p < 9; p++) nine[p] = y.tape(2000, 80000);
    due.is("a strand of nine", Make.lay(y, STRAND, RIGHT, 0, nine), 9);
    due.is("its parts", y.of(9, 4), 9);
    due.is("its length", y.of(9, 1), 2000);
    due.is("its weight", y.of(9, 5), 36000);
    RopeWalk z = new RopeWalk();
    int r = Make.lay(z, ROPE, LEFT, 1, Make.strand(z, 50, 8, RIGHT), Make.strand(z, 60, 8, RIGHT),
        Make.strand(z, 70, 8, RIGHT), Make.strand(z, 80, 8, RIGHT));
    due.is("a rope of four: its parts", z.of(r, 4), 4);
    due.is("its length: 50 * 999 / 1000", z.of(r, 1), 49);
    due.is("its weight", z.of(r, 5), 520);
    int c = Make.lay(z, CABLE, RIGHT, 100, r, Make.rope(z, 30, 8, LEFT), Make.rope(z, 40, 8, LEFT));
    due.is("a cable: its kind", z.of(c, 0), CABLE);
    due.is("its length", z.of(c, 1), 27);
    due.is("its weight, with its length", z.of(c, 5), 520 + 180 + 240 + 27);
    RopeWalk w = new RopeWalk();
    int spliced = w.splice(Make.rope(w, 30, 8, RIGHT), Make.rope(w, 30, 8, RIGHT), 1);
    int d = Make.lay(w, CABLE, LEFT, 0, spliced, Make.rope(w, 90, 8, RIGHT), Make.rope(w, 90, 8, RIGHT));
    due.is("a cable of a splice: its length", w.of(d, 1), 59);
    due.is("its first part", w.part(d, 0), spliced);
  }

  private static void layRefuses() {
    due.about("6 lay, refused");
    RopeWalk x = new RopeWalk();
    due.is("nothing picked", x.lay(STRAND, RIGHT, 0), -2);
    int a = x.yarn(10, 8);
    int b = x.yarn(10, 8);
    int one = x.yarn(1, 8);
    due.is("one part", Make.lay(x, STRAND, RIGHT, 0, a), -2);
    x.pick(b);
    int[][] wrong = {{0, RIGHT, 0}, {4, RIGHT, 0}, {5, RIGHT, 0}, {-1, RIGHT, 0}, {STRAND, 0, 0},
        {STRAND, 3, 0}, {STRAND, RIGHT, -1}, {STRAND, RIGHT, 401}, {ROPE, RIGHT, 0},
        {CABLE, RIGHT, 0}, {Integer.MAX_VALUE, RIGHT, 0}, {STRAND, Integer.MIN_VALUE, 0},
        {STRAND, LEFT, Integer.MAX_VALUE}, {STRAND, LEFT, Integer.MIN_VALUE}};
    for (int[] w : wrong) {
      due.is("lay(" + w[0] + ", " + w[1] + ", " + w[2] + ")", x.lay(w[0], w[1], w[2]), -2);
    }
    due.is("picked still", x.count(5), 2);
    due.is("nothing new", x.count(0), 3);
    due.is("free still", x.of(a, 3), 0);
    due.is("length 0", Make.lay(x, STRAND, RIGHT, 1, a, one), -2);
    due.is("length 1", Make.lay(x, STRAND, RIGHT, 0, a, one), 3);
    due.is("a strand in a strand", Make.lay(x, STRAND, LEFT, 0, b, 3), -2);
    int c = x.yarn(10, 8);
    Make.lay(x, STRAND, RIGHT, 0);
    x.pick(b);
    x.pick(c);
    x.hang(2, c);
    due.is("one is hung", x.lay(STRAND, RIGHT, 0), -2);
    due.is("picked still", x.count(5), 2);
    x.off(2);
    due.is("it came off", x.lay(STRAND, RIGHT, 0), 5);
    layRefusesParts();
    layRefusesMore();
  }

  private static void layRefusesParts() {
    RopeWalk x = new RopeWalk();
    int s1 = Make.strand(x, 10, 8, RIGHT);
    int s2 = Make.strand(x, 10, 8, RIGHT);
    int s3 = Make.strand(x, 10, 8, RIGHT);
    int l = Make.strand(x, 10, 8, LEFT);
    int y = x.yarn(10, 8);
    due.is("a rope of two", Make.lay(x, ROPE, LEFT, 0, s1, s2), -2);
    due.is("of the same twist", Make.lay(x, ROPE, RIGHT, 0, s1, s2, s3), -2);
    due.is("of mixed twists", Make.lay(x, ROPE, LEFT, 0, s1, s2, l), -2);
    due.is("with a yarn", Make.lay(x, ROPE, LEFT, 0, s1, s2, y), -2);
    due.is("a cable of strands", Make.lay(x, CABLE, LEFT, 0, s1, s2, s3), -2);
    due.is("a strand of strands", Make.lay(x, STRAND, LEFT, 0, s1, s2, s3), -2);
    int s4 = Make.strand(x, 10, 8, RIGHT);
    int s5 = Make.strand(x, 10, 8, RIGHT);
    due.is("a rope of five", Make.lay(x, ROPE, LEFT, 0, s1, s2, s3, s4, s5), -2);
    due.is("a rope of four", Make.lay(x, ROPE, LEFT, 0, s1, s2, s3, s4), 19);
    RopeWalk z = new RopeWalk();
    int r1 = Make.rope(z, 10, 8, LEFT);
    int r2 = Make.rope(z, 10, 8, LEFT);
    int r3 = Make.rope(z, 10, 8, LEFT);
    int r4 = Make.rope(z, 10, 8, LEFT);
    int other = Make.rope(z, 10, 8, RIGHT);
    due.is("a cable of two", Make.lay(z, CABLE, RIGHT, 0, r1, r2), -2);
    due.is("a cable of four", Make.lay(z, CABLE, RIGHT, 0, r1, r2, r3, r4), -2);
    due.is("a rope of ropes", Make.lay(z, ROPE, RIGHT, 0, r1, r2, r3), -2);
    due.is("a cable of the same twist", Make.lay(z, CABLE, LEFT, 0, r1, r2, r3), -2);
    due.is("a cable of mixed twists", Make.lay(z, CABLE, RIGHT, 0, r1, r2, other), -2);
    due.is("a cable", Make.lay(z, CABLE, RIGHT, 0, r1, r2, r3), 50);
    due.is("of a cable", Make.lay(z, CABLE, LEFT, 0, 50, r4, other), -2);
  }

  private static void layRefusesMore() {
    RopeWalk x = new RopeWalk();
    for (int p = 0; p < 119; p++) x.yarn(10, 8);
    due.is("the 120th", Make.lay(x, STRAND, RIGHT, 0, 0, 1), 119);
    due.is("the 121st", Make.lay(x, STRAND, RIGHT, 0, 2, 3), -2);
    due.is("free still", x.of(2, 3), 0);
  }

  private static void splice() {
    due.about("7 splice");
    RopeWalk x = new RopeWalk();
    int a = Make.rope(x, 20, 8, LEFT);
    int b = Make.rope(x, 12, 8, LEFT);
    int c = Make.rope(x, 12, 8, RIGHT);
    int s = Make.strand(x, 12, 8, LEFT);
    int[][] wrong = {{-1, b, 1}, {a, -1, 1}, {a, 120, 1}, {Integer.MAX_VALUE, b, 1}, {a, a, 1},
        {a, c, 1}, {a, s, 1}, {s, a, 1}, {a, b, 0}, {a, b, 13}, {b, a, 13}, {a, b, -1},
        {a, b, Integer.MIN_VALUE}, {a, b, Integer.MAX_VALUE}, {0, b, 1}, {a, 0, 1}};
    for (int[] w : wrong) {
      due.is("splice(" + w[0] + ", " + w[1] + ", " + w[2] + ")", x.splice(w[0], w[1], w[2]), -2);
    }
    due.is("free still", x.of(a, 3), 0);
    int p = x.splice(b, a, 12);
    due.is("splice(b, a, 12)", p, 33);
    due.is("its kind", x.of(p, 0), SPLICE);
    due.is("its length", x.of(p, 1), 20);
    due.is("its twist", x.of(p, 2), LEFT);
    due.is("its parts", x.of(p, 4), 2);
    due.is("its weight", x.of(p, 5), 6 * 20 + 6 * 12);
    due.is("its first part", x.part(p, 0), b);
    due.is("its second part", x.part(p, 1), a);
    due.is("laid", x.of(a, 3), 1);
    due.is("part of it", x.of(b, 6), p);
    int d = Make.rope(x, 5, 8, LEFT);
    due.is("a part of it again", x.splice(a, d, 1), -2);
    due.is("a splice and a rope", x.of(x.splice(p, d, 1), 1), 24);
    spliceLong();
  }

  private static void spliceLong() {
    RopeWalk x = new RopeWalk();
    int a = Make.rope(x, 1500, 8, LEFT);
    int b = Make.rope(x, 600, 8, LEFT);
    due.is("length 2001", x.splice(a, b, 99), -2);
    due.is("length 2000", x.splice(a, b, 100), 20);
    RopeWalk y = new RopeWalk();
    int c = Make.lay(y, CABLE, RIGHT, 0, Make.rope(y, 9, 8, LEFT), Make.rope(y, 9, 8, LEFT), Make.rope(y, 9, 8, LEFT));
    int d = Make.rope(y, 9, 8, RIGHT);
    int e = Make.rope(y, 9, 8, RIGHT);
    due.is("a cable and a rope", y.splice(c, d, 9), 51);
    y.hang(0, 51);
    due.is("one is hung", y.splice(51, e, 1), -2);
    for (int p = 52; p < 120; p++) y.yarn(1, 1);
    y.off(0);
    due.is("the 121st", y.splice(51, e, 1), -2);
    due.is("free still", y.of(51, 3), 0);
  }

  private static void untwist() {
    due.about("8 untwist");
    RopeWalk x = new RopeWalk();
    int s = Make.strand(x, 12, 8, LEFT);
    for (int p : NO_PIECES) due.is("untwist(" + p + ")", x.untwist(p), -2);
    due.is("a yarn", x.untwist(0), -2);
    int y = x.tape(5, 5);
    due.is("a tape", x.untwist(y), -2);
    x.hang(0, s);
    due.is("hung", x.untwist(s), -2);
    x.off(0);
    due.is("untwist(s)", x.untwist(s), 2);
    due.is("gone", x.of(s, 3), 3);
    due.is("its part", x.of(0, 3), 0);
    due.is("part of nothing", x.of(1, 6), -1);
    due.is("again", x.untwist(s), -2);
    due.is("pieces", x.count(0), 4);
    due.is("laid anew", Make.lay(x, STRAND, RIGHT, 0, 1, 0, y), 4);
    RopeWalk z = new RopeWalk();
    int r = Make.rope(z, 10, 8, LEFT);
    due.is("a laid strand", z.untwist(z.part(r, 0)), -2);
    int p = z.splice(r, Make.rope(z, 10, 8, LEFT), 3);
    due.is("a splice", z.untwist(p), 2);
    due.is("a rope", z.untwist(r), 3);
    due.is("its strands are free", z.of(z.part(r, 2), 3), 0);
    due.is("their yarns are laid", z.of(0, 3), 1);
  }

  private static void of() {
    due.about("9 of");
    RopeWalk x = new RopeWalk();
    int s = Make.strand(x, 12, 8, LEFT);
    for (int p : NO_PIECES) due.is("of(" + p + ", 0)", x.of(p, 0), -2);
    for (int what : new int[] {-1, 8, Integer.MIN_VALUE, Integer.MAX_VALUE}) {
      due.is("of(0, " + what + ")", x.of(0, what), -2);
    }
    int[] laid = {YARN, 12, 0, 1, 0, 12, s, -1};
    for (int what = 0; what < 8; what++) due.is("yarn, " + what, x.of(0, what), laid[what]);
    int[] free = {STRAND, 12, LEFT, 0, 2, 24, -1, 5};
    x.row(s, 5);
    for (int what = 0; what < 8; what++) due.is("strand, " + what, x.of(s, what), free[what]);
    x.hang(4, s);
    due.is("hung", x.of(s, 3), 2);
    x.off(4);
    x.untwist(s);
    int[] gone = {STRAND, 12, LEFT, 3, 2, 24, -1, 5};
    for (int what = 0; what < 8; what++) due.is("gone, " + what, x.of(s, what), gone[what]);
    x.row(0, 0);
    due.is("an empty row", x.of(0, 7), 0);
  }

  private static void part() {
    due.about("10 part");
    RopeWalk x = new RopeWalk();
    int a = x.yarn(9, 9);
    int b = x.yarn(9, 9);
    int c = x.yarn(9, 9);
    int s = Make.lay(x, STRAND, LEFT, 0, c, a, b);
    for (int p : NO_PIECES) due.is("part(" + p + ", 0)", x.part(p, 0), -2);
    int[] parts = {c, a, b};
    for (int k = 0; k < 3; k++) due.is("part(s, " + k + ")", x.part(s, k), parts[k]);
    for (int k : new int[] {-1, 3, Integer.MIN_VALUE, Integer.MAX_VALUE}) {
      due.is("part(s, " + k + ")", x.part(s, k), -2);
    }
    due.is("of a yarn", x.part(a, 0), -2);
    x.untwist(s);
    for (int k = 0; k < 3; k++) due.is("gone, " + k, x.part(s, k), parts[k]);
  }

  private static void count() {
    due.about("11 count");
    RopeWalk x = new RopeWalk();
    int s = Make.strand(x, 30, 8, LEFT);
    int gone = Make.strand(x, 30, 8, LEFT);
    x.untwist(gone);
    int y = x.yarn(30, 8);
    x.hang(1, y);
    x.pick(s);
    x.order(5, 8);
    x.order(5, 8);
    x.order(5, 8);
    x.cut(2);
    x.stage(3);
    x.stage(3);
    int[] want = {7, 3, 2, 1, 1, 1, 3, 1, 2};
    for (int what = 0; what < 9; what++) due.is("count(" + what + ")", x.count(what), want[what]);
    for (int what : new int[] {-1, 9, Integer.MIN_VALUE, Integer.MAX_VALUE}) {
      due.is("count(" + what + ")", x.count(what), -2);
    }
  }

  private static void row() {
    due.about("12 row");
    RopeWalk x = new RopeWalk();
    int s = Make.strand(x, 12, 8, LEFT);
    for (int p : NO_PIECES) due.is("row(" + p + ", 3)", x.row(p, 3), -2);
    due.is("no piece is asked first", x.row(50, -1), -2);
    due.is("row(0, 8)", x.row(0, 8), 8);
    due.is("row(0, 9)", x.row(0, 9), -2);
    due.is("row(0, MAX)", x.row(0, Integer.MAX_VALUE), -2);
    due.is("row(0, -1)", x.row(0, -1), -13);
    due.is("row(0, MIN)", x.row(0, Integer.MIN_VALUE), -13);
    due.is("it has the row of before", x.of(0, 7), 8);
    due.is("spot(0, 7)", x.spot(0, 7, 0, 5, 4), 0);
    due.isReal("worn", x.bears(0, 0), 0.5);
    due.is("row(0, 8) anew", x.row(0, 8), 8);
    due.isReal("worn no more", x.bears(0, 0), 1.0);
    due.is("untold", x.spot(0, 7, 0, 5, 4), 0);
    due.is("row(0, 0)", x.row(0, 0), 0);
    due.is("of(0, 7)", x.of(0, 7), 0);
    due.is("spot(0, 0)", x.spot(0, 0, 0, 5, 4), -11);
    x.untwist(s);
    due.is("gone", x.row(s, 1), -2);
    due.is("gone and below 0", x.row(s, -1), -2);
  }

  private static void lose() {
    due.about("13 lose");
    RopeWalk x = new RopeWalk();
    int s = Make.strand(x, 12, 8, LEFT);
    for (int p : NO_PIECES) due.is("lose(" + p + ")", x.lose(p), -2);
    due.is("without one", x.lose(0), 0);
    x.row(0, 0);
    due.is("with an empty one", x.lose(0), 1);
    x.row(0, 2);
    x.spot(0, 1, 0, 11, 0);
    due.isReal("worn", x.bears(0, 3), 0.0);
    due.is("with one", x.lose(0), 1);
    due.isReal("worn no more", x.bears(0, 3), 1.0);
    due.is("again", x.lose(0), 0);
    due.is("of(0, 7)", x.of(0, 7), -1);
    x.row(s, 3);
    x.untwist(s);
    due.is("gone", x.lose(s), -2);
    due.is("gone, its row", x.of(s, 7), 3);
  }

  private static void spot() {
    due.about("14 spot");
    RopeWalk x = new RopeWalk();
    int s = Make.strand(x, 12, 8, LEFT);
    for (int p : NO_PIECES) due.is("spot(" + p + ")", x.spot(p, 0, 0, 0, 1), -2);
    due.is("without a row", x.spot(0, 0, 0, 0, 1), -10);
    due.is("without a row, no such spot", x.spot(0, -1, 0, 0, 1), -10);
    due.is("without a row, wrong", x.spot(0, 0, 0, 0, 9), -2);
    x.row(0, 2);
    int[][] wrong = {{-1, 0, 1}, {2001, 0, 1}, {0, -1, 1}, {0, 2001, 1}, {0, 0, -2}, {0, 0, 9},
        {-1, 0, -1}, {2001, 0, -1}, {0, -1, -1}, {0, 2001, -1}};
    for (int[] w : wrong) {
      due.is("spot(0, 0, " + w[0] + ", " + w[1] + ", " + w[2] + ")", x.spot(0, 0, w[0], w[1], w[2]), -2);
      due.is("with no such spot", x.spot(0, 2, w[0], w[1], w[2]), -2);
    }
    for (int i : new int[] {-1, 2, 8, Integer.MIN_VALUE, Integer.MAX_VALUE}) {
      due.is("spot(0, " + i + ")", x.spot(0, i, 0, 0, 1), -11);
      due.is("untold, spot(0, " + i + ")", x.spot(0, i, 0, 0, -1), -11);
    }
    due.is("untold before", x.spot(0, 1, 0, 0, -1), 0);
    due.is("told", x.spot(0, 1, 2000, 2000, 0), 0);
    due.is("told again", x.spot(0, 1, 0, 2000, 8), 1);
    due.isReal("a share of 1", x.bears(0, 3), 1.0);
    due.is("told again", x.spot(0, 1, 3, 5, 1), 1);
    due.isReal("before it", x.bears(0, 2), 1.0);
    due.isReal("on its first place", x.bears(0, 3), 0.125);
    due.isReal("on its last place", x.bears(0, 5), 0.125);
    due.isReal("behind it", x.bears(0, 6), 1.0);
    due.is("untold again", x.spot(0, 1, 0, 0, -1), 1);
    due.isReal("covers nothing", x.bears(0, 3), 1.0);
    due.is("untold still", x.spot(0, 1, 0, 0, -1), 0);
    x.spot(0, 0, 6, 5, 0);
    due.isReal("the first above the second", x.bears(0, 5) + x.bears(0, 6), 2.0);
    due.is("that one is told", x.spot(0, 0, 6, 5, -1), 1);
    x.row(s, 1);
    x.untwist(s);
    due.is("gone", x.spot(s, 0, 0, 0, 1), -2);
  }

  private static void carry() {
    due.about("15 carry");
    RopeWalk x = new RopeWalk();
    int s = Make.strand(x, 12, 8, LEFT);
    for (int p : NO_PIECES) {
      due.is("carry(" + p + ", ..)", x.carry(p, 0, 0, 0, 0), -2);
      due.is("carry(.., " + p + ", ..)", x.carry(0, 0, p, 0, 0), -2);
    }
    due.is("no rows", x.carry(0, 0, 1, 0, 0), -10);
    x.row(0, 3);
    due.is("one row", x.carry(0, 0, 1, 0, 0), -10);
    due.is("one row, other way, and wrong", x.carry(1, -1, 0, 0, 0), -10);
    x.row(1, 5);
    int[][] wrong = {{-1, 0, 0}, {0, -1, 0}, {0, 0, -1}, {4, 0, 0}, {0, 6, 0}, {0, 0, 4}, {2, 0, 2},
        {0, 3, 3}, {Integer.MAX_VALUE, 0, 1}, {1, 1, Integer.MAX_VALUE}, {0, Integer.MAX_VALUE, 2},
        {Integer.MIN_VALUE, 0, 1}, {0, 0, Integer.MIN_VALUE}, {Integer.MAX_VALUE, 0, Integer.MAX_VALUE}};
    for (int[] w : wrong) {
      due.is("carry(0, " + w[0] + ", 1, " + w[1] + ", " + w[2] + ")", x.carry(0, w[0], 1, w[1], w[2]), -11);
    }
    due.is("nothing at the ends", x.carry(0, 3, 1, 5, 0), 0);
    x.spot(0, 0, 0, 3, 4);
    x.spot(0, 2, 2, 4, 2);
    x.spot(1, 3, 0, 2000, 1);
    x.spot(1, 4, 7, 7, 0);
    due.is("told ones over untold ones, and an untold one over a told one", x.carry(0, 0, 1, 2, 3), 2);
    due.isReal("bears(1, 0)", x.bears(1, 0), 0.5);
    due.isReal("bears(1, 2)", x.bears(1, 2), 0.125);
    due.isReal("bears(1, 4)", x.bears(1, 4), 0.25);
    due.isReal("bears(1, 7)", x.bears(1, 7), 1.0);
    due.is("untold there", x.spot(1, 3, 0, 0, -1), 0);
    due.is("the source is as it was", x.spot(0, 0, 0, 0, -1), 1);
    carryOnItself();
    due.is("a share of 0 is told", x.spot(0, 0, 0, 0, 0), 0);
    due.is("told ones of the whole row", x.carry(0, 0, 0, 0, 0), 2);
    x.row(1, 0);
    due.is("from an empty row", x.carry(1, 0, 0, 3, 0), 2);
    due.is("to an empty row", x.carry(0, 3, 1, 0, 0), 0);
    due.is("more than that", x.carry(0, 0, 1, 0, 1), -11);
    x.row(1, 8);
    due.is("to the end of a full row", x.carry(0, 0, 1, 5, 3), 2);
    x.row(s, 3);
    x.untwist(s);
    due.is("gone", x.carry(s, 0, 0, 0, 0), -2);
    due.is("gone, other way", x.carry(0, 0, s, 0, 0), -2);
  }

  private static void carryOnItself() {
    RopeWalk x = new RopeWalk();
    x.yarn(4, 64);
    x.row(0, 4);
    for (int i = 0; i < 3; i++) x.spot(0, i, i, i, i + 1);
    due.is("forward", x.carry(0, 0, 0, 1, 3), 4);
    double[] forward = {8 * 0.125 * 0.125, 8 * 0.25, 8 * 0.375, 8};
    for (int i = 0; i < 4; i++) due.isReal("forward, " + i, x.bears(0, i), forward[i]);
    due.is("backward", x.carry(0, 2, 0, 0, 2), 4);
    double[] backward = {8, 8 * 0.25 * 0.25, 8 * 0.375 * 0.375, 8};
    for (int i = 0; i < 4; i++) due.isReal("backward, " + i, x.bears(0, i), backward[i]);
  }

  private static void bears() {
    due.about("16 bears");
    RopeWalk x = new RopeWalk();
    int s = Make.strand(x, 12, 8, LEFT);
    for (int p : NO_PIECES) due.isReal("bears(" + p + ", 0)", x.bears(p, 0), -2.0);
    for (int at : new int[] {-1, 12, Integer.MIN_VALUE, Integer.MAX_VALUE}) {
      due.isReal("bears(s, " + at + ")", x.bears(s, at), -2.0);
    }
    due.isReal("bears(s, 0)", x.bears(s, 0), 1.75);
    due.isReal("bears(s, 11)", x.bears(s, 11), 1.75);
    due.isReal("of a laid yarn", x.bears(0, 11), 1.0);
    x.untwist(s);
    due.isReal("gone", x.bears(s, 0), -2.0);
    bearsByPlaces();
    bearsInFloats();
  }

  private static void bearsByPlaces() {
    RopeWalk x = new RopeWalk();
    int a = Make.wornYarn(x, 10, 80, 3, 3, 0);
    int b = Make.wornYarn(x, 7, 40, 6, 6, 0);
    int s = Make.lay(x, STRAND, RIGHT, 400, a, b);
    due.is("its length", x.of(s, 1), 4);
    // The places of a, 10 long: 0 2 5 7; of b, 7 long: 0 1 3 5.
    for (int at = 0; at < 4; at++) due.isReal("bears(s, " + at + ")", x.bears(s, at), 13.125);
    x.spot(a, 0, 5, 5, 0);
    x.spot(b, 0, 5, 9, 4);
    double[] want = {13.125, 13.125, 4.375, 10.9375};
    for (int at = 0; at < 4; at++) due.isReal("worn, " + at, x.bears(s, at), want[at]);
    x.row(s, 1);
    x.spot(s, 0, 2, 3, 6);
    double[] wornToo = {13.125, 13.125, 3.28125, 8.203125};
    for (int at = 0; at < 4; at++) due.isReal("worn itself, " + at, x.bears(s, at), wornToo[at]);
    RopeWalk y = new RopeWalk();
    int r = Make.rope(y, 40, 8, LEFT);
    due.isReal("a rope", y.bears(r, 39), Make.ropeBears(8));
    int c = Make.lay(y, CABLE, RIGHT, 0, r, Make.rope(y, 40, 16, LEFT), Make.rope(y, 40, 24, LEFT));
    due.isReal("a cable", y.bears(c, 0), 6 * Make.ropeBears(8) * 0.625);
  }

  private static void bearsInFloats() {
    RopeWalk x = new RopeWalk();
    int[] yarns = new int[9];
    float sum = 0.0f;
    for (int k = 0; k < 9; k++) {
      yarns[k] = x.yarn(5, 79999 - 7 * k);
      x.row(yarns[k], 8);
      float share = (79999 - 7 * k) * 0.125f;
      for (int i = 0; i < 8; i++) {
        int eighths = (3 * i + k) % 5 + 3;
        x.spot(yarns[k], i, 0, 4, eighths);
        share = share * (eighths * 0.125f);
      }
      sum = sum + share;
    }
    int s = Make.lay(x, STRAND, RIGHT, 0, yarns);
    due.isReal("rounded as floats are", x.bears(s, 4), sum * 0.875f);
    int tiny = x.yarn(3, 1);
    x.row(tiny, 8);
    for (int i = 0; i < 8; i++) x.spot(tiny, i, 0, 2, 1);
    due.isReal("eight shares", x.bears(tiny, 1), 1.0 / (1 << 27));
  }

  private static void bearsSpliced() {
    due.about("16 bears, spliced");
    RopeWalk x = new RopeWalk();
    int a = Make.rope(x, 10, 8, LEFT);
    int b = Make.rope(x, 6, 16, LEFT);
    x.row(b, 1);
    x.spot(b, 0, 1, 1, 2);
    int s = x.splice(a, b, 4);
    double one = Make.ropeBears(8);
    double[] want = {one, one, one, one, one, one, 2 * one, one, 2 * one, 2 * one, 2 * one, 2 * one};
    due.is("its length", x.of(s, 1), 12);
    for (int at = 0; at < 12; at++) due.isReal("bears(s, " + at + ")", x.bears(s, at), want[at]);
    x.row(s, 2);
    x.spot(s, 0, 9, 10, 4);
    x.spot(s, 1, 10, 11, 4);
    due.isReal("worn itself, 9", x.bears(s, 9), one);
    due.isReal("worn itself, 10", x.bears(s, 10), one / 2);
    due.isReal("bears(s, 12)", x.bears(s, 12), -2.0);
    RopeWalk y = new RopeWalk();
    int c = Make.rope(y, 4, 8, LEFT);
    int d = Make.rope(y, 10, 16, LEFT);
    int t = y.splice(c, d, 4);
    due.is("one inside the other: its length", y.of(t, 1), 10);
    for (int at = 0; at < 10; at++) due.isReal("bears(t, " + at + ")", y.bears(t, at), 2 * one);
  }

  private static void least() {
    due.about("17 least");
    RopeWalk x = new RopeWalk();
    int s = Make.strand(x, 12, 8, LEFT);
    for (int p : NO_PIECES) due.isReal("least(" + p + ")", x.least(p), -2.0);
    due.isReal("unworn", x.least(s), 1.75);
    x.row(0, 2);
    x.spot(0, 0, 11, 11, 3);
    x.spot(0, 1, 0, 0, 4);
    due.isReal("worn on the last place", x.least(0), 0.375);
    due.isReal("the strand", x.least(s), 1.375 * 0.875);
    x.spot(0, 0, 12, 2000, 0);
    due.isReal("worn behind the last place", x.least(0), 0.5);
    x.untwist(s);
    due.isReal("gone", x.least(s), -2.0);
    int one = x.yarn(1, 3);
    due.isReal("one place", x.least(one), 0.375);
  }

  private static void where() {
    due.about("18 where");
    RopeWalk x = new RopeWalk();
    int s = Make.strand(x, 12, 8, LEFT);
    for (int p : NO_PIECES) due.is("where(" + p + ")", x.where(p), -2);
    due.is("unworn", x.where(s), 0);
    x.row(0, 3);
    x.spot(0, 0, 11, 11, 3);
    x.spot(0, 1, 5, 6, 3);
    due.is("the first of them", x.where(0), 5);
    due.is("the strand", x.where(s), 5);
    x.spot(0, 2, 0, 0, 3);
    due.is("the first place", x.where(0), 0);
    x.spot(0, 2, 1, 11, 7);
    x.spot(0, 0, 1, 1, 2);
    x.spot(0, 1, 0, 0, 1);
    due.is("less on the first place than on the second", x.where(0), 0);
    x.spot(0, 0, 11, 11, 0);
    due.is("the last place", x.where(0), 11);
    x.untwist(s);
    due.is("gone", x.where(s), -2);
  }

  private static void grams() {
    due.about("19 grams");
    RopeWalk x = new RopeWalk();
    int s = Make.strand(x, 12, 8, LEFT);
    for (int p : NO_PIECES) due.is("grams(" + p + ")", x.grams(p), -2);
    due.is("grams(s)", x.grams(s), 1750);
    int y = x.yarn(4, 79999);
    due.is("grams(y)", x.grams(y), 9999875L);
    x.row(y, 3);
    for (int i = 0; i < 3; i++) x.spot(y, i, 0, 4, 7);
    float least = 79999 * 0.125f * 0.875f * 0.875f * 0.875f;
    due.is("a product in floats", x.grams(y), (long) (least * 1000.0f));
    due.holds("a product in doubles would be another", (long) (least * 1000.0) != (long) (least * 1000.0f));
    int z = x.yarn(4, 1);
    x.row(z, 2);
    for (int i = 0; i < 2; i++) x.spot(z, i, 0, 4, 1);
    due.is("cut down", x.grams(z), 1);
    x.spot(z, 0, 0, 4, 0);
    due.is("nothing", x.grams(z), 0);
    x.untwist(s);
    due.is("gone", x.grams(s), -2);
  }

  private static void rest() {
    due.about("20 rest");
    RopeWalk x = new RopeWalk();
    int s = Make.strand(x, 12, 8, LEFT);
    for (int p : NO_PIECES) due.isReal("rest(" + p + ", 1)", x.rest(p, 1), -2.0);
    for (int e : new int[] {0, -1, 80001, Integer.MIN_VALUE, Integer.MAX_VALUE}) {
      due.isReal("rest(s, " + e + ")", x.rest(s, e), -2.0);
    }
    due.isReal("1.75 by 1", x.rest(s, 8), 0.75);
    due.isReal("1.75 by 1.75", x.rest(s, 14), 0.0);
    due.isReal("1.75 by 1.875", x.rest(s, 15), 1.75);
    due.isReal("1.75 by 10000", x.rest(s, 80000), 1.75);
    int y = x.yarn(4, 79999);
    x.row(y, 8);
    for (int i = 0; i < 8; i++) x.spot(y, i, 0, 4, 7);
    float least = 79999 * 0.125f;
    for (int i = 0; i < 8; i++) least = least * 0.875f;
    for (int e = 1; e < 300; e++) {
      due.isReal("rest(y, " + e + ")", x.rest(y, e), least % (e * 0.125f));
    }
    x.untwist(s);
    due.isReal("gone", x.rest(s, 1), -2.0);
  }

  private static void left() {
    due.about("21 left");
    RopeWalk x = new RopeWalk();
    int s = Make.strand(x, 12, 8, LEFT);
    for (int p : NO_PIECES) due.isReal("left(" + p + ", 1)", x.left(p, 1), -2.0);
    for (int t : new int[] {0, -1, 1000001, Integer.MIN_VALUE, Integer.MAX_VALUE}) {
      due.isReal("left(s, " + t + ")", x.left(s, t), -2.0);
    }
    due.isReal("1.75 by 1", x.left(s, 1024), 0.75);
    due.isReal("1.75 by 1 / 1024", x.left(s, 1), 0.0);
    due.isReal("1.75 by 1.75", x.left(s, 1792), 0.0);
    due.isReal("1.75 by more", x.left(s, 1793), 1.75);
    due.isReal("1.75 by most", x.left(s, 1000000), 1.75);
    int y = x.yarn(4, 79999);
    x.row(y, 8);
    for (int i = 0; i < 8; i++) x.spot(y, i, 0, 4, 7);
    double least = x.least(y);
    for (int t = 1; t < 300; t++) {
      due.isReal("left(y, " + t + ")", x.left(y, t), least % (t * 0.0009765625));
    }
    x.untwist(s);
    due.isReal("gone", x.left(s, 1), -2.0);
  }

  private static void turned() {
    due.about("22 turned");
    RopeWalk x = new RopeWalk();
    int s = Make.strand(x, 12, 8, LEFT);
    for (int p : NO_PIECES) due.is("turned(" + p + ")", x.turned(p, 1, 1), -1000000L);
    int[][] wrong = {{-1, 0}, {80001, 0}, {0, -1}, {0, 13}, {Integer.MIN_VALUE, 0},
        {Integer.MAX_VALUE, 0}, {0, Integer.MIN_VALUE}, {0, Integer.MAX_VALUE}};
    for (int[] w : wrong) {
      due.is("turned(s, " + w[0] + ", " + w[1] + ")", x.turned(s, w[0], w[1]), -1000000L);
    }
    due.is("80000", x.turned(s, 80000, 0), -9999);
    int y = x.yarn(4, 20);
    // 2.5 less the eighths, and what is answered for how 0 to 7.
    long[][] want = {
        {0, 2, 3, 2, 1, 20, 20, 2, 2}, {4, 2, 2, 2, 1, 16, 16, 2, 2}, {8, 1, 2, 2, 1, 12, 12, 2, 2},
        {7, 1, 2, 2, 1, 13, 13, 2, 2}, {9, 1, 2, 1, 1, 11, 11, 2, 2}, {16, 0, 1, 0, 1, 4, 4, 2, 2},
        {18, 0, 1, 0, 1, 2, 2, 2, 2}, {19, 0, 1, 0, 1, 1, 2, 1, 2}, {20, 0, 0, 0, 0, 0, 2, 0, 2},
        {21, -1, 0, 0, -1, 1, 2, -1, -2}, {24, -1, 0, 0, -1, 4, 2, -4, -2},
        {25, -1, 0, -1, -1, 5, 2, -5, -2}, {32, -2, -1, -2, -1, 12, 2, -12, -2},
        {31, -2, -1, -1, -1, 11, 2, -11, -2}, {28, -1, -1, -1, -1, 8, 2, -8, -2}};
    for (long[] w : want) {
      for (int how = 0; how < 8; how++) {
        due.is("turned(y, " + w[0] + ", " + how + ")", x.turned(y, (int) w[0], how), w[how + 1]);
      }
      for (int how = 3; how < 8; how++) {
        due.is("turned(y, " + w[0] + ", " + (how + 5) + ")", x.turned(y, (int) w[0], how + 5), w[how + 1]);
      }
    }
    x.untwist(s);
    due.is("gone", x.turned(s, 1, 1), -1000000L);
  }

  private static void turnedInFloats() {
    due.about("22 turned, in floats");
    RopeWalk x = new RopeWalk();
    int y = x.yarn(4, 3);
    x.row(y, 8);
    for (int i = 0; i < 8; i++) x.spot(y, i, 0, 4, 1);
    // LEAST is 3 / 2^27, which a float near 1000 can't hold, but a double can.
    due.is("in doubles", x.turned(y, 8000, 4), 7999);
    due.is("in floats", x.turned(y, 8000, 9), 8000);
    due.is("lesser one in doubles", x.turned(y, 8000, 6), -7999);
    due.is("lesser one in floats", x.turned(y, 8000, 11), -8000);
    due.is("a little above 0 is not below", x.turned(y, 0, 1), 1);
    due.is("nearest", x.turned(y, 0, 2), 0);
    due.is("sign", x.turned(y, 0, 8), 1);
    due.is("eight times, cut", x.turned(y, 0, 4), 0);
    due.is("nearly -0.5 is nearest to 0", x.turned(y, 4, 2), 0);
    due.is("nearly -1.5 is nearest to -1", x.turned(y, 12, 2), -1);
  }

  private static void hang() {
    due.about("23 hang");
    RopeWalk x = new RopeWalk();
    int s = Make.strand(x, 12, 8, LEFT);
    int y = x.yarn(2000, 8);
    for (int p : NO_PIECES) due.is("hang(0, " + p + ")", x.hang(0, p), -2);
    due.is("no such piece is asked first", x.hang(6, 50), -2);
    due.is("a laid one", x.hang(0, 0), -2);
    due.is("a laid one is asked first", x.hang(-1, 0), -2);
    for (int r : new int[] {-1, 6, Integer.MIN_VALUE, Integer.MAX_VALUE}) {
      due.is("hang(" + r + ", y)", x.hang(r, y), -11);
    }
    due.is("hang(0, y)", x.hang(0, y), 2000);
    due.is("hung", x.of(y, 3), 2);
    due.is("a hung one", x.hang(1, y), -2);
    due.is("on a full reel", x.hang(0, s), -2);
    due.is("free still", x.of(s, 3), 0);
    due.is("hang(5, s)", x.hang(5, s), 12);
    x.off(5);
    x.untwist(s);
    due.is("a gone one", x.hang(5, s), -2);
  }

  private static void off() {
    due.about("24 off");
    RopeWalk x = new RopeWalk();
    int y = x.yarn(20, 8);
    for (int r : new int[] {-1, 6, Integer.MIN_VALUE, Integer.MAX_VALUE}) {
      due.is("off(" + r + ")", x.off(r), -11);
    }
    due.is("empty", x.off(3), -10);
    x.hang(3, y);
    x.order(5, 8);
    x.cut(0);
    due.is("an order is cut", x.off(3), -2);
    due.is("hung still", x.of(y, 3), 2);
    x.join(0);
    due.is("joined", x.off(3), y);
    due.is("free", x.of(y, 3), 0);
    due.is("empty again", x.off(3), -10);
  }

  private static void take() {
    due.about("25 take");
    RopeWalk x = new RopeWalk();
    int[] on = {x.yarn(9, 9), Make.strand(x, 9, 9, LEFT), Make.rope(x, 9, 9, LEFT),
        Make.lay(x, CABLE, RIGHT, 0, Make.rope(x, 9, 9, LEFT), Make.rope(x, 9, 9, LEFT), Make.rope(x, 9, 9, LEFT)),
        x.tape(9, 9), x.splice(Make.rope(x, 9, 9, LEFT), Make.rope(x, 9, 9, LEFT), 1)};
    due.is("empty", x.take(0, 0), -10);
    for (int kind = 0; kind < 6; kind++) x.hang(kind, on[kind]);
    // Rows: what is on the reel; columns: what it is taken as.
    String[] is = {"X.....", "XX....", "XXX...", "XXXX..", "X...X.", "XXX..X"};
    for (int r = 0; r < 6; r++) {
      for (int kind = 0; kind < 6; kind++) {
        int want = is[r].charAt(kind) == 'X' ? on[r] : -12;
        due.is("take(" + r + ", " + kind + ")", x.take(r, kind), want);
      }
    }
    for (int wrong : new int[] {-1, 6, Integer.MIN_VALUE, Integer.MAX_VALUE}) {
      due.is("take(" + wrong + ", 0)", x.take(wrong, 0), -11);
      due.is("take(0, " + wrong + ")", x.take(0, wrong), -2);
      due.is("the kind is asked first", x.take(wrong, wrong), -2);
    }
    due.is("it stays on the reel", x.of(on[0], 3), 2);
  }

  private static void order() {
    due.about("26 order");
    RopeWalk x = new RopeWalk();
    int[][] wrong = {{0, 0}, {-1, 0}, {2001, 0}, {1, -1}, {1, 800001}, {Integer.MAX_VALUE, 0},
        {Integer.MIN_VALUE, 0}, {1, Integer.MAX_VALUE}, {1, Integer.MIN_VALUE}};
    for (int[] w : wrong) due.is("order(" + w[0] + ", " + w[1] + ")", x.order(w[0], w[1]), -2);
    due.is("count(6)", x.count(6), 0);
    due.is("order(1, 0)", x.order(1, 0), 0);
    due.is("order(2000, 800000)", x.order(2000, 800000), 1);
    for (int o = 2; o < 6; o++) due.is("order(5, 5)", x.order(5, 5), o);
    due.is("the seventh", x.order(5, 5), -2);
    due.is("count(6)", x.count(6), 6);
    due.is("count(7)", x.count(7), 0);
  }

  private static void cut() {
    due.about("27 cut");
    RopeWalk x = new RopeWalk();
    for (int o : new int[] {-1, 0, 6, Integer.MIN_VALUE, Integer.MAX_VALUE}) {
      due.is("cut(" + o + ")", x.cut(o), -2);
    }
    x.order(10, 8);
    due.is("no reels", x.cut(0), -1);
    due.is("not cut", x.count(7), 0);
    x.hang(1, x.yarn(9, 800));
    due.is("too short", x.cut(0), -1);
    x.hang(2, x.yarn(90, 7));
    due.is("too weak", x.cut(0), -1);
    int worn = Make.wornYarn(x, 30, 16, 9, 9, 3);
    x.hang(4, worn);
    due.is("behind the worn place", x.cut(0), 40010);
    due.is("again", x.cut(0), -2);
    due.is("count(7)", x.count(7), 1);
    x.order(9, 8);
    due.is("the first reel, all of it", x.cut(1), 10000);
    x.order(9, 8);
    due.is("before the worn place", x.cut(2), 40000);
    x.order(11, 6);
    due.is("behind the other one", x.cut(3), 20000);
    x.order(10, 6);
    due.is("the reel by number", x.cut(4), 20011);
    x.order(10, 8);
    due.is("the last places", x.cut(5), 40020);
    x.join(0);
    due.is("its place anew", x.cut(0), 40010);
    x.join(0);
    x.spot(worn, 0, 10, 11, 4);
    due.is("just as much as must be", x.cut(0), 40009);
    x.join(0);
    x.spot(worn, 0, 10, 11, 3);
    due.is("now it is too weak", x.cut(0), -1);
  }

  private static void join() {
    due.about("28 join");
    RopeWalk x = new RopeWalk();
    for (int o : new int[] {-1, 0, 6, Integer.MIN_VALUE, Integer.MAX_VALUE}) {
      due.is("join(" + o + ")", x.join(o), -2);
    }
    x.order(10, 8);
    x.order(10, 8);
    due.is("not cut", x.join(0), -2);
    x.hang(5, x.yarn(25, 8));
    x.cut(0);
    x.cut(1);
    due.is("join(1)", x.join(1), 50010);
    due.is("again", x.join(1), -2);
    due.is("join(0)", x.join(0), 50000);
    due.is("count(7)", x.count(7), 0);
    due.is("cut(1), where the other one was", x.cut(1), 50000);
  }

  private static void begun() {
    due.about("29 begun");
    RopeWalk x = new RopeWalk();
    x.hang(0, x.yarn(25, 8));
    x.hang(1, x.yarn(2000, 8));
    x.hang(5, x.yarn(31, 8));
    x.order(12, 8);
    x.order(12, 8);
    x.order(2000, 8);
    due.is("none", x.begun(), 0);
    x.cut(0);
    due.is("one", x.begun(), 25);
    x.cut(1);
    due.is("two of one reel", x.begun(), 25);
    x.cut(2);
    due.is("two reels", x.begun(), 2025);
    x.join(0);
    due.is("one is joined", x.begun(), 2025);
    x.join(1);
    due.is("both are", x.begun(), 2000);
  }

  private static void fewest() {
    due.about("30 fewest");
    RopeWalk x = new RopeWalk();
    due.is("no orders", x.fewest(), 0);
    x.order(10, 8);
    due.is("no reels", x.fewest(), -1);
    x.hang(0, x.yarn(30, 8));
    x.hang(1, x.yarn(21, 8));
    x.hang(3, x.yarn(11, 8));
    x.hang(5, x.yarn(12, 8));
    due.is("one order", x.fewest(), 11);
    x.order(12, 8);
    due.is("two orders: the first one would be cut from reel 3 alone", x.fewest(), 23);
    x.order(8, 8);
    due.is("three orders", x.fewest(), 30);
    due.is("nothing is cut", x.count(7), 0);
    due.is("cut(1)", x.cut(1), 0);
    due.is("not from reel 0, as an order is cut from it", x.fewest(), 21);
    x.order(11, 8);
    due.is("more", x.fewest(), 32);
    x.order(12, 8);
    due.is("still more", x.fewest(), 44);
    x.order(12, 8);
    due.is("too much", x.fewest(), -1);
    fewestByFirstFit();
  }

  private static void fewestByFirstFit() {
    RopeWalk x = new RopeWalk();
    x.hang(0, x.yarn(20, 80));
    x.hang(1, x.yarn(20, 8));
    x.order(20, 8);
    x.order(20, 80);
    due.is("the first order takes the strong reel", x.fewest(), -1);
    due.is("cut(0)", x.cut(0), 0);
    due.is("the second finds none", x.fewest(), -1);
    x.join(0);
    due.is("cut(1)", x.cut(1), 0);
    due.is("cut from reel 0 already", x.cut(1), -2);
    due.is("the weak reel is left", x.fewest(), 20);
    due.is("cut(0)", x.cut(0), 10000);
    due.is("none are left", x.fewest(), 0);
    RopeWalk y = new RopeWalk();
    y.hang(2, Make.wornYarn(y, 20, 80, 10, 10, 0));
    y.hang(4, y.yarn(18, 80));
    y.order(9, 8);
    y.order(9, 8);
    due.is("the worn reel has just as many places", y.fewest(), 18);
    y.order(1, 0);
    due.is("one more, behind them", y.fewest(), 20);
    y.order(2, 0);
    due.is("what is left of it is not in one piece", y.fewest(), 38);
  }

  private static void stage() {
    due.about("31 stage");
    RopeWalk x = new RopeWalk();
    for (int ropes : new int[] {-1, 9, Integer.MIN_VALUE, Integer.MAX_VALUE}) {
      due.is("stage(" + ropes + ")", x.stage(ropes), -2);
    }
    due.is("count(8)", x.count(8), 0);
    due.is("stage(0)", x.stage(0), 1);
    for (int k = 2; k <= 10; k++) due.is("stage(8)", x.stage(8), k);
    due.is("the eleventh", x.stage(1), -2);
    due.is("count(8)", x.count(8), 10);
  }

  private static void unstage() {
    due.about("32 unstage");
    RopeWalk x = new RopeWalk();
    due.is("none", x.unstage(), -2);
    x.stage(0);
    x.stage(8);
    due.is("the latest", x.unstage(), 8);
    due.is("count(8)", x.count(8), 1);
    due.is("the first", x.unstage(), 0);
    due.is("none again", x.unstage(), -2);
    due.is("count(8)", x.count(8), 0);
    for (int k = 0; k < 10; k++) x.stage(k % 9);
    for (int k = 9; k >= 0; k--) due.is("of ten", x.unstage(), k % 9);
  }

  private static void pull() {
    due.about("33 pull");
    RopeWalk x = new RopeWalk();
    due.is("no stages", x.pull(12, 0), 12);
    due.is("no stages, below", x.pull(12, 1), 1);
    int[][] wrong = {{-1, 0}, {1000001, 0}, {5, -1}, {5, 2}, {Integer.MIN_VALUE, 0},
        {Integer.MAX_VALUE, 1}, {5, Integer.MIN_VALUE}, {5, Integer.MAX_VALUE}};
    for (int[] w : wrong) due.is("pull(" + w[0] + ", " + w[1] + ")", x.pull(w[0], w[1]), -2);
    x.stage(6);
    x.stage(4);
    due.is("36 / 24, above", x.pull(36, 0), 3);
    due.is("36 / 24, below", x.pull(36, 1), 2);
    due.is("0 / 24, above", x.pull(0, 0), 0);
    due.is("0 / 24, below", x.pull(0, 1), 1);
    due.is("1000000 / 24, above", x.pull(1000000, 0), 125000);
    due.is("1000000 / 24, below", x.pull(1000000, 1), 3);
    x.stage(0);
    x.stage(5);
    due.is("it binds", x.pull(36, 0), -1);
    due.is("which is asked first", x.pull(-1, 7), -1);
    RopeWalk y = new RopeWalk();
    for (int k = 0; k < 10; k++) y.stage(8);
    due.is("999999 / 8^10, above", y.pull(999999, 0), 999999);
    due.is("999999 / 8^10, below", y.pull(999999, 1), 1L << 30);
    due.is("2^19 / 8^10, below", y.pull(1 << 19, 1), 1L << 11);
  }

  private static void stress() {
    due.about("34 stress");
    RopeWalk x = new RopeWalk();
    due.is("no stages", x.stress(0, 5, 0), -2);
    x.stage(6);
    x.stage(4);
    x.stage(0);
    x.stage(5);
    int[][] wrong = {{-1, 5, 0}, {4, 5, 0}, {0, -1, 0}, {0, 1000001, 0}, {0, 5, -1}, {0, 5, 2},
        {3, -1, 0}, {3, 5, 2}, {Integer.MIN_VALUE, 5, 0}, {Integer.MAX_VALUE, 5, 0}};
    for (int[] w : wrong) {
      due.is("stress(" + w[0] + ", " + w[1] + ", " + w[2] + ")", x.stress(w[0], w[1], w[2]), -2);
    }
    due.is("36 / 6, above", x.stress(0, 36, 0), 6);
    due.is("36 / 6, below", x.stress(0, 36, 1), 1);
    due.is("36 / 24, above", x.stress(1, 36, 0), 3);
    due.is("36 / 24, below", x.stress(1, 36, 1), 2);
    due.is("0 / 24, below", x.stress(1, 0, 1), 1);
    due.is("1000000 / 24, below", x.stress(1, 1000000, 1), 3);
    due.is("the stage itself is 0", x.stress(2, 36, 0), -1);
    due.is("one before is 0", x.stress(3, 36, 1), -1);
    x.unstage();
    due.is("no such stage any more", x.stress(3, 36, 1), -2);
  }
}
