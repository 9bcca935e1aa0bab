/** The edges that promises 1 to 11 name, one test for each of their sentences. */
public final class EdgesOfPiecesTest {
  private static final int[] FAR = {Integer.MIN_VALUE, -1, 120, Integer.MAX_VALUE};

  private static final Due due = new Due();

  public static void main(String[] args) {
    newObjectHasNothing();
    newObjectsShareNothing();
    yarnLengths();
    yarnEighths();
    yarnBothWrong();
    yarnPieces();
    tapeLengths();
    tapeEighths();
    tapePieces();
    pickNoPiece();
    pickNotFree();
    pickPickedAlready();
    pickNine();
    pickedStaysSo();
    dropAnswers();
    layKinds();
    layTwists();
    layTurns();
    layNotFree();
    layFreeAgain();
    layPartsOfKinds();
    layPartsOfTwists();
    layPieces();
    layLengthZero();
    layLeavesAll();
    spliceNoPiece();
    spliceNotFree();
    spliceOne();
    spliceKinds();
    spliceTwists();
    spliceOver();
    spliceLength();
    splicePieces();
    untwistNoPiece();
    untwistNotFree();
    untwistNoParts();
    untwistAnswers();
    ofNoPiece();
    ofWhats();
    ofGone();
    ofPartOf();
    ofRow();
    partNoPiece();
    partNumbers();
    countWhats();
    countAll();
    due.end();
  }

  // ---- 1 ----

  private static void newObjectHasNothing() {
    due.about("1 no pieces, orders, stages; all reels are empty; nothing is picked");
    RopeWalk x = new RopeWalk();
    for (int what = 0; what <= 8; what++) due.is("count(" + what + ")", x.count(what), 0);
    due.is("of(0, 0)", x.of(0, 0), -2);
    due.is("cut(0)", x.cut(0), -2);
    due.is("join(0)", x.join(0), -2);
    due.is("stress(0, 1, 0)", x.stress(0, 1, 0), -2);
    due.is("unstage()", x.unstage(), -2);
    for (int r = 0; r < 6; r++) due.is("off(" + r + ")", x.off(r), -10);
    due.is("drop()", x.drop(), 0);
    due.is("yarn()", x.yarn(1, 1), 0);
    due.is("order()", x.order(1, 1), 0);
    due.is("stage()", x.stage(1), 1);
    due.is("pick(0)", x.pick(0), 1);
  }

  private static void newObjectsShareNothing() {
    due.about("1 what another object has");
    RopeWalk x = Scene.full();
    due.same("a new one beside a full one", Scene.told(new RopeWalk()), Scene.told(Scene.empty()));
    due.is("the full one", x.count(0), 120);
  }

  // ---- 2, 3 ----

  private static void yarnLengths() {
    due.about("2 the length is not 1 .. 2000");
    int[] lengths = {Integer.MIN_VALUE, -2000, -1, 0, 1, 2, 1999, 2000, 2001, Integer.MAX_VALUE};
    RopeWalk x = new RopeWalk();
    int made = 0;
    for (int l : lengths) {
      boolean may = l >= 1 && l <= 2000;
      due.is("yarn(" + l + ", 8)", x.yarn(l, 8), may ? made++ : -2);
      due.is("count(0)", x.count(0), made);
      if (may) due.is("its length", x.of(made - 1, 1), l);
    }
  }

  private static void yarnEighths() {
    due.about("2 the eighths not 0 .. 80000");
    int[] eighths = {Integer.MIN_VALUE, -1, 0, 1, 79999, 80000, 80001, 800000, Integer.MAX_VALUE};
    RopeWalk x = new RopeWalk();
    int made = 0;
    for (int e : eighths) {
      boolean may = e >= 0 && e <= 80000;
      due.is("yarn(8, " + e + ")", x.yarn(8, e), may ? made++ : -2);
      due.is("count(0)", x.count(0), made);
      if (may) due.isReal("its strength", x.least(made - 1), e * 0.125);
    }
  }

  private static void yarnBothWrong() {
    due.about("2, 3 more than one thing is wrong");
    RopeWalk x = new RopeWalk();
    for (int length = 0; length <= 2001; length += 2001) {
      for (int eighths = -1; eighths <= 80001; eighths += 80002) {
        due.is("yarn(" + length + ", " + eighths + ")", x.yarn(length, eighths), -2);
        due.is("tape(" + length + ", " + eighths + ")", x.tape(length, eighths), -2);
      }
    }
    due.is("count(0)", x.count(0), 0);
  }

  private static void yarnPieces() {
    due.about("2 there are 120 pieces");
    RopeWalk x = new RopeWalk();
    for (int p = 0; p < 119; p++) x.tape(1, 1);
    due.is("the 120th", x.yarn(2000, 80000), 119);
    due.is("the 121st", x.yarn(2000, 80000), -2);
    due.is("the last one is as it was", x.of(119, 0), Make.YARN);
    due.is("of(120, 0)", x.of(120, 0), -2);
    due.is("count(0)", x.count(0), 120);
  }

  private static void tapeLengths() {
    due.about("3 the length is not 1 .. 2000");
    int[] lengths = {Integer.MIN_VALUE, -1, 0, 1, 2000, 2001, Integer.MAX_VALUE};
    RopeWalk x = new RopeWalk();
    int made = 0;
    for (int l : lengths) {
      boolean may = l >= 1 && l <= 2000;
      due.is("tape(" + l + ", 8)", x.tape(l, 8), may ? made++ : -2);
      due.is("count(0)", x.count(0), made);
      if (may) due.is("its length", x.of(made - 1, 1), l);
    }
  }

  private static void tapeEighths() {
    due.about("3 the eighths not 0 .. 80000");
    int[] eighths = {Integer.MIN_VALUE, -1, 0, 1, 80000, 80001, Integer.MAX_VALUE};
    RopeWalk x = new RopeWalk();
    int made = 0;
    for (int e : eighths) {
      boolean may = e >= 0 && e <= 80000;
      due.is("tape(8, " + e + ")", x.tape(8, e), may ? made++ : -2);
      due.is("count(0)", x.count(0), made);
      if (may) due.isReal("half its strength", x.least(made - 1), e * 0.0625);
    }
  }

  private static void tapePieces() {
    due.about("3 there are 120 pieces");
    RopeWalk x = new RopeWalk();
    for (int p = 0; p < 119; p++) x.yarn(1, 1);
    due.is("the 120th", x.tape(2000, 80000), 119);
    due.is("the 121st", x.tape(2000, 80000), -2);
    due.is("the last one is as it was", x.of(119, 0), Make.TAPE);
    due.is("count(0)", x.count(0), 120);
  }

  // ---- 4, 5 ----

  private static void pickNoPiece() {
    due.about("4 there is no such piece");
    RopeWalk x = new RopeWalk();
    due.is("pick(0), none is there", x.pick(0), -2);
    x.yarn(5, 5);
    x.yarn(5, 5);
    for (int p : FAR) due.is("pick(" + p + ")", x.pick(p), -2);
    due.is("pick(2)", x.pick(2), -2);
    due.is("pick(1)", x.pick(1), 1);
    due.is("pick(0)", x.pick(0), 2);
    RopeWalk y = Scene.full();
    y.drop();
    due.is("pick(119) of 120", y.pick(119), 1);
    due.is("pick(120) of 120", y.pick(120), -2);
  }

  private static void pickNotFree() {
    due.about("4 it isn't free");
    RopeWalk x = Scene.usual();
    for (int laid = 0; laid < 20; laid++) due.is("laid, " + laid, x.pick(laid), -2);
    due.is("gone", x.pick(23), -2);
    due.is("hung", x.pick(24), -2);
    due.is("hung", x.pick(25), -2);
    due.is("count(5)", x.count(5), 2);
    due.is("free", x.pick(26), 3);
    due.is("free", x.pick(20), 4);
    due.is("came off", x.off(4), 25);
    due.is("free again", x.pick(25), 5);
    due.is("untwisted", x.untwist(20), 2);
    due.is("free again", x.pick(9), 6);
  }

  private static void pickPickedAlready() {
    due.about("4 it is picked already");
    RopeWalk x = new RopeWalk();
    for (int p = 0; p < 9; p++) x.yarn(5, 5);
    for (int p = 0; p < 9; p++) {
      due.is("pick(" + p + ")", x.pick(p), p + 1);
      for (int q = 0; q <= p; q++) due.is("pick(" + q + ") again", x.pick(q), -2);
    }
    due.is("count(5)", x.count(5), 9);
    x.drop();
    due.is("dropped, pick(8)", x.pick(8), 1);
  }

  private static void pickNine() {
    due.about("4 or 9 are");
    RopeWalk x = new RopeWalk();
    for (int p = 0; p < 12; p++) x.yarn(5, 5);
    for (int p = 0; p < 9; p++) due.is("pick(" + p + ")", x.pick(p), p + 1);
    due.is("the tenth", x.pick(9), -2);
    due.is("the tenth again", x.pick(10), -2);
    due.is("one that is picked", x.pick(0), -2);
    due.is("drop()", x.drop(), 9);
    due.is("the tenth, now the first", x.pick(9), 1);
  }

  private static void pickedStaysSo() {
    due.about("4 picked till lay() or drop(), also when it isn't free any more");
    RopeWalk x = new RopeWalk();
    int a = Make.rope(x, 5, 8, Make.LEFT);
    int b = Make.rope(x, 5, 8, Make.LEFT);
    int s = Make.strand(x, 5, 8, Make.LEFT);
    int y = x.yarn(5, 8);
    for (int p : new int[] {a, b, s, y}) x.pick(p);
    x.splice(a, b, 5);
    due.is("laid, picked still", x.count(5), 4);
    x.untwist(s);
    due.is("gone, picked still", x.count(5), 4);
    x.hang(0, y);
    due.is("hung, picked still", x.count(5), 4);
    due.is("the next one", x.pick(s - 1), 5);
    due.is("lay() is refused", x.lay(Make.STRAND, Make.LEFT, 0), -2);
    due.is("picked still", x.count(5), 5);
    due.is("drop()", x.drop(), 5);
    due.is("count(5)", x.count(5), 0);
  }

  private static void dropAnswers() {
    due.about("5 nothing is picked: how many were");
    RopeWalk x = new RopeWalk();
    for (int p = 0; p < 9; p++) x.yarn(5, 5);
    for (int n = 0; n <= 9; n++) {
      for (int p = 0; p < n; p++) x.pick(p);
      due.is("drop() of " + n, x.drop(), n);
      due.is("drop() again", x.drop(), 0);
      due.is("count(5)", x.count(5), 0);
    }
    x.pick(0);
    x.pick(1);
    x.lay(Make.STRAND, Make.LEFT, 0);
    due.is("drop() behind lay()", x.drop(), 0);
  }

  // ---- 6 ----

  private static RopeWalk picked(int kind, int count) {
    RopeWalk x = new RopeWalk();
    int[] parts = new int[count];
    for (int k = 0; k < count; k++) {
      if (kind == Make.STRAND) parts[k] = x.yarn(1000, 8);
      else parts[k] = kind == Make.ROPE ? Make.strand(x, 1000, 8, Make.LEFT) : Make.rope(x, 1000, 8, Make.LEFT);
    }
    x.drop();
    for (int p : parts) x.pick(p);
    return x;
  }

  private static void layKinds() {
    due.about("6 the kind is not 1 .. 3");
    for (int whole = 1; whole <= 3; whole++) {
      for (int kind : new int[] {Integer.MIN_VALUE, -1, 0, 1, 2, 3, 4, 5, 6, Integer.MAX_VALUE}) {
        RopeWalk x = picked(whole, 3);
        int pieces = x.count(0);
        due.is("lay(" + kind + ", ..)", x.lay(kind, Make.RIGHT, 0), kind == whole ? pieces : -2);
        due.is("picked behind it", x.count(5), kind == whole ? 0 : 3);
        due.is("pieces behind it", x.count(0), kind == whole ? pieces + 1 : pieces);
      }
    }
  }

  private static void layTwists() {
    due.about("6 the twist not 1 or 2");
    for (int twist : new int[] {Integer.MIN_VALUE, -1, 0, 1, 2, 3, 4, Integer.MAX_VALUE}) {
      for (int whole = 1; whole <= 3; whole++) {
        RopeWalk x = picked(whole, 3);
        int pieces = x.count(0);
        boolean may = twist == 1 || twist == 2 && whole == Make.STRAND;
        due.is("lay(" + whole + ", " + twist + ", 0)", x.lay(whole, twist, 0), may ? pieces : -2);
        due.is("its twist", x.of(pieces, 2), may ? twist : -2);
        due.is("picked behind it", x.count(5), may ? 0 : 3);
      }
    }
  }

  private static void layTurns() {
    due.about("6 the turns not 0 .. 400");
    for (int turns : new int[] {Integer.MIN_VALUE, -1, 0, 1, 399, 400, 401, 1000, Integer.MAX_VALUE}) {
      for (int whole = 1; whole <= 3; whole++) {
        RopeWalk x = picked(whole, 3);
        int pieces = x.count(0);
        boolean may = turns >= 0 && turns <= 400;
        due.is("lay(" + whole + ", 1, " + turns + ")", x.lay(whole, 1, turns), may ? pieces : -2);
        due.is("its length", x.of(pieces, 1), may ? 1000 - turns : -2);
      }
    }
  }

  private static void layNotFree() {
    due.about("6 one that is picked isn't free (any more)");
    for (int at = 0; at < 9; at++) {
      RopeWalk x = picked(Make.STRAND, 9);
      x.hang(0, at);
      due.is("hung, " + at, x.lay(Make.STRAND, 1, 0), -2);
      due.is("picked still", x.count(5), 9);
      due.is("the others are free", x.count(1), 8);
    }
    for (int at = 0; at < 3; at++) {
      RopeWalk x = picked(Make.ROPE, 3);
      x.untwist(3 * at + 2);
      due.is("gone, " + at, x.lay(Make.ROPE, 1, 0), -2);
      RopeWalk y = picked(Make.CABLE, 3);
      y.splice(10 * at + 9, 10 * ((at + 1) % 3) + 9, 1);
      due.is("laid, " + at, y.lay(Make.CABLE, 1, 0), -2);
      due.is("picked still", y.count(5), 3);
    }
  }

  private static void layFreeAgain() {
    due.about("6 one that is picked is free again");
    RopeWalk x = picked(Make.CABLE, 3);
    x.hang(3, 9);
    int s = x.splice(19, 29, 1);
    due.is("refused", x.lay(Make.CABLE, 1, 0), -2);
    x.off(3);
    due.is("refused still", x.lay(Make.CABLE, 1, 0), -2);
    x.untwist(s);
    due.is("all are free again", x.lay(Make.CABLE, 1, 0), s + 1);
  }

  private static void layPartsOfKinds() {
    due.about("6 of kinds as said, just these");
    String[] may = {"", "X...X.", ".X....", "..X..X"};
    for (int whole = 1; whole <= 3; whole++) {
      RopeWalk x = new RopeWalk();
      int[] odd = Make.eachKind(x, 5, 8, Make.LEFT);
      int a = whole == 1 ? x.yarn(5, 8) : whole == 2 ? Make.strand(x, 5, 8, 2) : Make.rope(x, 5, 8, 2);
      int b = whole == 1 ? x.tape(5, 8) : whole == 2 ? Make.strand(x, 5, 8, 2) : Make.rope(x, 5, 8, 2);
      for (int kind = 0; kind < 6; kind++) {
        for (int at = 0; at < 3; at++) {
          int o = odd[kind];
          int pieces = x.count(0);
          int want = may[whole].charAt(kind) == 'X' ? pieces : -2;
          String call = "kind " + kind + " in " + whole + ", at " + at;
          int[] parts = at == 0 ? new int[] {o, a, b} : at == 1 ? new int[] {a, o, b} : new int[] {a, b, o};
          due.is(call, Make.lay(x, whole, Make.RIGHT, 0, parts), want);
          if (want >= 0) due.is(call + ", untwisted", x.untwist(want), 3);
        }
      }
    }
  }

  private static void layPartsOfTwists() {
    due.about("6 of twists as said: all parts of a rope or cable have the other twist");
    for (int whole = 2; whole <= 3; whole++) {
      for (int bits = 0; bits < 8; bits++) {
        RopeWalk x = new RopeWalk();
        int[] parts = new int[3];
        for (int k = 0; k < 3; k++) {
          int twist = 1 + (bits >> k & 1);
          parts[k] = whole == 2 ? Make.strand(x, 5, 8, twist) : Make.rope(x, 5, 8, twist);
        }
        int pieces = x.count(0);
        due.is(bits + " laid right", Make.lay(x, whole, 1, 0, parts), bits == 7 ? pieces : -2);
        if (bits == 7) x.untwist(pieces);
        due.is(bits + " laid left", Make.lay(x, whole, 2, 0, parts), bits == 0 ? pieces : -2);
      }
    }
    RopeWalk y = new RopeWalk();
    int s = Make.splice(y, 5, 8, Make.LEFT);
    int a = Make.rope(y, 5, 8, Make.LEFT);
    int b = Make.rope(y, 5, 8, Make.LEFT);
    due.is("a splice of the same twist", Make.lay(y, Make.CABLE, Make.LEFT, 0, s, a, b), -2);
    due.is("a splice of the other twist", Make.lay(y, Make.CABLE, Make.RIGHT, 0, s, a, b), 41);
  }

  private static void layPieces() {
    due.about("6 there are 120 pieces");
    for (int free = 0; free < 2; free++) {
      RopeWalk x = new RopeWalk();
      int rope = Make.rope(x, 5, 8, Make.LEFT);
      for (int p = 10; p < 120 - free; p++) x.yarn(5, 8);
      due.is("a strand, free places: " + free, Make.lay(x, Make.STRAND, 1, 0, 10, 11), free == 1 ? 119 : -2);
      due.is("picked behind it", x.count(5), free == 1 ? 0 : 2);
      x.untwist(rope);
      due.is("a rope", Make.lay(x, Make.ROPE, Make.LEFT, 0, 2, 5, 8), -2);
      due.is("its strands are free", x.of(2, 3) + x.of(5, 3) + x.of(8, 3), 0);
      due.is("count(0)", x.count(0), 120);
    }
  }

  private static void layLengthZero() {
    due.about("6 or its length would be 0");
    int[][] want = {{1, 0, 1}, {1, 1, 0}, {1, 400, 0}, {2, 400, 1}, {2, 1, 1}};
    for (int[] w : want) {
      RopeWalk x = new RopeWalk();
      int a = x.yarn(2000, 8);
      int b = x.tape(w[0], 8);
      due.is("a strand of " + w[0] + ", " + w[1], Make.lay(x, Make.STRAND, 1, w[1], a, b), w[2] > 0 ? 2 : -2);
      due.is("its length", x.of(2, 1), w[2] > 0 ? w[2] : -2);
      due.is("picked behind it", x.count(5), w[2] > 0 ? 0 : 2);
      due.is("its part", x.of(0, 3), w[2] > 0 ? 1 : 0);
      RopeWalk y = new RopeWalk();
      for (int k = 0; k < 3; k++) Make.rope(y, w[0], 8, Make.LEFT);
      due.is("a cable of " + w[0] + ", " + w[1], Make.lay(y, Make.CABLE, 1, w[1], 9, 19, 29), w[2] > 0 ? 30 : -2);
      RopeWalk z = new RopeWalk();
      for (int k = 0; k < 3; k++) Make.strand(z, w[0], 8, Make.LEFT);
      due.is("a rope of " + w[0] + ", " + w[1], Make.lay(z, Make.ROPE, 1, w[1], 2, 5, 8), w[2] > 0 ? 9 : -2);
    }
  }

  private static void layLeavesAll() {
    due.about("6 all that is picked is laid in this order; its parts are laid, nothing is picked");
    RopeWalk x = new RopeWalk();
    for (int p = 0; p < 10; p++) x.yarn(5, 8);
    int[] order = {9, 0, 8, 1, 7, 2, 6, 3, 5};
    due.is("of nine", Make.lay(x, Make.STRAND, Make.RIGHT, 0, order), 10);
    for (int k = 0; k < 9; k++) {
      due.is("part(10, " + k + ")", x.part(10, k), order[k]);
      due.is("laid", x.of(order[k], 3), 1);
      due.is("part of it", x.of(order[k], 6), 10);
    }
    due.is("the one that wasn't picked", x.of(4, 3), 0);
    due.is("part of nothing", x.of(4, 6), -1);
    due.is("count(5)", x.count(5), 0);
    due.is("lay() again", x.lay(Make.STRAND, Make.RIGHT, 0), -2);
  }

  // ---- 7 ----

  private static RopeWalk twoRopes(int first, int second) {
    RopeWalk x = new RopeWalk();
    Make.rope(x, first, 8, Make.LEFT);
    Make.rope(x, second, 8, Make.LEFT);
    return x;
  }

  private static void spliceNoPiece() {
    due.about("7 one of them is no piece");
    RopeWalk x = twoRopes(5, 5);
    for (int p : new int[] {Integer.MIN_VALUE, -1, 20, 119, 120, Integer.MAX_VALUE}) {
      due.is("splice(" + p + ", 9, 1)", x.splice(p, 9, 1), -2);
      due.is("splice(9, " + p + ", 1)", x.splice(9, p, 1), -2);
      due.is("splice(" + p + ", " + p + ", 1)", x.splice(p, p, 1), -2);
    }
    due.is("both are free", x.of(9, 3) + x.of(19, 3), 0);
    due.is("splice(9, 19, 1)", x.splice(9, 19, 1), 20);
  }

  private static void spliceNotFree() {
    due.about("7 or isn't free");
    RopeWalk x = twoRopes(5, 5);
    int c = Make.rope(x, 5, 8, Make.LEFT);
    x.hang(0, c);
    due.is("hung, second", x.splice(9, c, 1), -2);
    due.is("hung, first", x.splice(c, 9, 1), -2);
    x.off(0);
    int s = x.splice(9, 19, 1);
    due.is("laid, second", x.splice(c, 9, 1), -2);
    due.is("laid, first", x.splice(19, c, 1), -2);
    x.untwist(s);
    due.is("gone, second", x.splice(9, s, 1), -2);
    due.is("gone, first", x.splice(s, 9, 1), -2);
    due.is("free again", x.splice(19, c, 1), s + 1);
  }

  private static void spliceOne() {
    due.about("7 they are one");
    RopeWalk x = twoRopes(5, 5);
    due.is("splice(9, 9, 1)", x.splice(9, 9, 1), -2);
    due.is("splice(9, 9, 5)", x.splice(9, 9, 5), -2);
    due.is("free still", x.of(9, 3), 0);
    due.is("alike, but two", x.splice(9, 19, 5), 20);
  }

  private static void spliceKinds() {
    due.about("7 one is no rope, cable or splice");
    String may = "..XX.X";
    for (int a = 0; a < 6; a++) {
      RopeWalk x = new RopeWalk();
      int[] all = Make.eachKind(x, 5, 8, Make.LEFT);
      int rope = Make.rope(x, 6, 8, Make.LEFT);
      for (int b = 0; b < 6; b++) {
        if (a == b) continue;
        int pieces = x.count(0);
        boolean is = may.charAt(a) == 'X' && may.charAt(b) == 'X';
        due.is("kinds " + a + " and " + b, x.splice(all[a], all[b], 2), is ? pieces : -2);
        if (is) due.is("untwist()", x.untwist(pieces), 2);
      }
      int pieces = x.count(0);
      due.is("kind " + a + " and a rope", x.splice(all[a], rope, 2), may.charAt(a) == 'X' ? pieces : -2);
    }
    RopeWalk y = new RopeWalk();
    due.is("two cables", y.splice(Make.cable(y, 5, 8, 1), Make.cable(y, 5, 8, 1), 5), 62);
    RopeWalk z = new RopeWalk();
    due.is("two splices", z.splice(Make.splice(z, 5, 8, 1), Make.splice(z, 5, 8, 1), 5), 42);
  }

  private static void spliceTwists() {
    due.about("7 their twists differ");
    for (int bits = 0; bits < 4; bits++) {
      RopeWalk x = new RopeWalk();
      int a = Make.rope(x, 5, 8, 1 + (bits & 1));
      int b = Make.splice(x, 5, 8, 1 + (bits >> 1));
      boolean alike = bits == 0 || bits == 3;
      due.is("twists " + bits, x.splice(a, b, 1), alike ? 31 : -2);
      if (alike) due.is("its own twist", x.of(31, 2), 1 + (bits & 1));
    }
  }

  private static void spliceOver() {
    due.about("7 over is not 1 .. the lesser one of their lengths");
    int[][] lengths = {{5, 8}, {8, 5}, {5, 5}, {1, 9}, {1, 1}};
    for (int[] l : lengths) {
      int lesser = Math.min(l[0], l[1]);
      for (int over : new int[] {Integer.MIN_VALUE, -1, 0, 1, lesser - 1, lesser, lesser + 1, 9, 2001, Integer.MAX_VALUE}) {
        RopeWalk x = twoRopes(l[0], l[1]);
        boolean may = over >= 1 && over <= lesser;
        due.is(l[0] + " and " + l[1] + " over " + over, x.splice(9, 19, over), may ? 20 : -2);
        due.is("its length", x.of(20, 1), may ? l[0] + l[1] - over : -2);
        due.is("laid", x.of(9, 3) + x.of(19, 3), may ? 2 : 0);
      }
    }
  }

  private static void spliceLength() {
    due.about("7 its length would be above 2000");
    int[][] want = {{1200, 1000, 199, -2}, {1200, 1000, 200, 2000}, {1200, 1000, 201, 1999}, {2000, 2000, 1999, -2},
        {2000, 2000, 2000, 2000}, {2000, 1, 1, 2000}, {1, 2000, 1, 2000}, {1000, 1001, 1, 2000}, {1001, 1001, 1, -2}};
    for (int[] w : want) {
      RopeWalk x = twoRopes(w[0], w[1]);
      due.is(w[0] + " and " + w[1] + " over " + w[2], x.splice(9, 19, w[2]), w[3] < 0 ? -2 : 20);
      due.is("its length", x.of(20, 1), w[3]);
      due.is("laid", x.of(9, 3) + x.of(19, 3), w[3] < 0 ? 0 : 2);
    }
  }

  private static void splicePieces() {
    due.about("7 or there are 120 pieces");
    for (int free = 0; free < 2; free++) {
      RopeWalk x = twoRopes(5, 5);
      for (int p = 20; p < 120 - free; p++) x.yarn(1, 1);
      due.is("free places: " + free, x.splice(9, 19, 1), free == 1 ? 119 : -2);
      due.is("laid", x.of(9, 3) + x.of(19, 3), free == 1 ? 2 : 0);
      due.is("count(0)", x.count(0), 120);
    }
  }

  // ---- 8 ----

  private static void untwistNoPiece() {
    due.about("8 there is no such piece");
    RopeWalk x = new RopeWalk();
    due.is("none is there", x.untwist(0), -2);
    Make.strand(x, 5, 8, 1);
    for (int p : FAR) due.is("untwist(" + p + ")", x.untwist(p), -2);
    due.is("untwist(3)", x.untwist(3), -2);
    due.is("untwist(2)", x.untwist(2), 2);
  }

  private static void untwistNotFree() {
    due.about("8 it isn't free");
    RopeWalk x = twoRopes(5, 5);
    int s = x.splice(9, 19, 1);
    due.is("laid strand", x.untwist(2), -2);
    due.is("laid rope", x.untwist(9), -2);
    x.hang(1, s);
    due.is("hung", x.untwist(s), -2);
    due.is("on the reel still", x.take(1, 0), s);
    x.off(1);
    due.is("free", x.untwist(s), 2);
    due.is("gone", x.untwist(s), -2);
    due.is("the rope", x.untwist(9), 3);
    due.is("the strand", x.untwist(2), 2);
    due.is("count(4)", x.count(4), 3);
  }

  private static void untwistNoParts() {
    due.about("8 it has no parts");
    RopeWalk x = new RopeWalk();
    due.is("a yarn", x.untwist(x.yarn(5, 8)), -2);
    due.is("a tape", x.untwist(x.tape(5, 8)), -2);
    due.is("free still", x.count(1), 2);
    due.is("none is gone", x.count(4), 0);
  }

  private static void untwistAnswers() {
    due.about("8 its parts are free: how many");
    RopeWalk x = new RopeWalk();
    int[] all = Make.eachKind(x, 5, 8, Make.LEFT);
    int[] want = {-2, 2, 3, 3, -2, 2};
    for (int kind = 0; kind < 6; kind++) {
      due.is("kind " + kind, x.untwist(all[kind]), want[kind]);
      due.is("gone", x.of(all[kind], 3), want[kind] > 0 ? 3 : 0);
      for (int k = 0; k < want[kind]; k++) {
        due.is("part " + k + " is free", x.of(x.part(all[kind], k), 3), 0);
        due.is("part " + k + " is part of nothing", x.of(x.part(all[kind], k), 6), -1);
      }
    }
    RopeWalk y = picked(Make.STRAND, 9);
    due.is("of nine", y.untwist(y.lay(Make.STRAND, 1, 0)), 9);
    due.is("all are free", y.count(1), 9);
    RopeWalk z = picked(Make.ROPE, 4);
    due.is("of four", z.untwist(z.lay(Make.ROPE, 1, 0)), 4);
    due.is("all are free", z.count(1), 4);
  }

  // ---- 9, 10 ----

  private static void ofNoPiece() {
    due.about("9 there is no such piece");
    RopeWalk x = new RopeWalk();
    for (int what = -1; what <= 8; what++) due.is("of(0, " + what + "), none is there", x.of(0, what), -2);
    x.yarn(5, 8);
    for (int what = -1; what <= 8; what++) {
      for (int p : FAR) due.is("of(" + p + ", " + what + ")", x.of(p, what), -2);
      due.is("of(1, " + what + ")", x.of(1, what), -2);
    }
  }

  private static void ofWhats() {
    due.about("9 or what");
    RopeWalk x = new RopeWalk();
    x.yarn(5, 8);
    int[] whats = {Integer.MIN_VALUE, -1, 0, 7, 8, Integer.MAX_VALUE};
    int[] want = {-2, -2, 0, -1, -2, -2};
    for (int i = 0; i < whats.length; i++) due.is("of(0, " + whats[i] + ")", x.of(0, whats[i]), want[i]);
    int s = Make.gone(x, 5, 8);
    for (int what : new int[] {-1, 8}) due.is("gone, what " + what, x.of(s, what), -2);
  }

  private static void ofGone() {
    due.about("9 of one that is gone 4, 5, 7 as it had them");
    RopeWalk x = new RopeWalk();
    int[] all = Make.eachKind(x, 10, 8, Make.LEFT);
    int[] rows = {0, -1, 0, 8, 0, 3};
    for (int kind : new int[] {Make.STRAND, Make.ROPE, Make.CABLE, Make.SPLICE}) {
      int p = all[kind];
      if (rows[kind] >= 0) x.row(p, rows[kind]);
      int[] was = new int[8];
      for (int what = 0; what < 8; what++) was[what] = x.of(p, what);
      due.is("its row", was[7], rows[kind]);
      x.untwist(p);
      for (int what = 0; what < 8; what++) due.is("gone, " + what, x.of(p, what), what == 3 ? 3 : was[what]);
      x.row(x.part(p, 0), 5);
      x.lose(x.part(p, 0));
      due.is("its row still", x.of(p, 7), rows[kind]);
    }
  }

  private static void ofPartOf() {
    due.about("9 the piece that it is a part of, -1 without (6)");
    RopeWalk x = new RopeWalk();
    x.yarn(5, 8);
    x.yarn(5, 8);
    due.is("free", x.of(0, 6), -1);
    int s = Make.lay(x, Make.STRAND, 1, 0, 0, 1);
    due.is("laid", x.of(0, 6), s);
    x.untwist(s);
    due.is("its whole is gone", x.of(0, 6), -1);
    int t = Make.lay(x, Make.STRAND, 2, 0, 1, 0);
    due.is("laid anew", x.of(0, 6), t);
    due.is("of the one that is gone", x.of(s, 6), -1);
    x.hang(0, t);
    due.is("a part of a hung one", x.of(0, 6), t);
    due.is("the hung one", x.of(t, 6), -1);
    RopeWalk y = new RopeWalk();
    due.is("a part of piece 0 there can't be", y.of(y.yarn(1, 1), 6), -1);
  }

  private static void ofRow() {
    due.about("9 how many spots its row has, -1 without a row (7)");
    RopeWalk x = new RopeWalk();
    x.yarn(5, 8);
    due.is("without", x.of(0, 7), -1);
    for (int n = 0; n <= 8; n++) {
      x.row(0, n);
      due.is("with", x.of(0, 7), n);
    }
    x.lose(0);
    due.is("lost", x.of(0, 7), -1);
  }

  private static void partNoPiece() {
    due.about("10 there is no such piece");
    RopeWalk x = new RopeWalk();
    due.is("none is there", x.part(0, 0), -2);
    Make.strand(x, 5, 8, 1);
    for (int p : FAR) due.is("part(" + p + ", 0)", x.part(p, 0), -2);
    due.is("part(3, 0)", x.part(3, 0), -2);
    due.is("part(2, 0)", x.part(2, 0), 0);
  }

  private static void partNumbers() {
    due.about("10 or part; of one that is gone those that it had");
    RopeWalk x = new RopeWalk();
    int[] all = Make.eachKind(x, 5, 8, Make.LEFT);
    int[] parts = {0, 2, 3, 3, 0, 2};
    for (int kind = 0; kind < 6; kind++) {
      for (int k : new int[] {Integer.MIN_VALUE, -1, parts[kind], parts[kind] + 1, 9, Integer.MAX_VALUE}) {
        due.is("kind " + kind + ", part " + k, x.part(all[kind], k), -2);
      }
      int[] had = new int[parts[kind]];
      for (int k = 0; k < had.length; k++) had[k] = x.part(all[kind], k);
      for (int k = 0; k < had.length; k++) due.is("kind " + kind + ", part " + k, x.of(had[k], 6), all[kind]);
      x.untwist(all[kind]);
      for (int k = 0; k < had.length; k++) due.is("gone, part " + k, x.part(all[kind], k), had[k]);
      due.is("gone, one behind the last", x.part(all[kind], had.length), -2);
      due.is("gone, -1", x.part(all[kind], -1), -2);
    }
    RopeWalk y = picked(Make.STRAND, 9);
    y.lay(Make.STRAND, 1, 0);
    due.is("the ninth of nine", y.part(9, 8), 8);
    due.is("the tenth of nine", y.part(9, 9), -2);
  }

  // ---- 11 ----

  private static void countWhats() {
    due.about("11 -2 for another what");
    RopeWalk x = new RopeWalk();
    for (int what : new int[] {Integer.MIN_VALUE, -1, 9, 10, Integer.MAX_VALUE}) {
      due.is("count(" + what + ")", x.count(what), -2);
    }
    due.is("count(0)", x.count(0), 0);
    due.is("count(8)", x.count(8), 0);
  }

  private static void countAll() {
    due.about("11 nothing there, some, and all full");
    int[] some = {27, 4, 20, 2, 1, 2, 4, 2, 2};
    int[] most = {120, 75, 38, 6, 1, 9, 6, 5, 10};
    RopeWalk usual = Scene.usual();
    RopeWalk full = Scene.full();
    for (int what = 0; what <= 8; what++) {
      due.is("nothing, " + what, new RopeWalk().count(what), 0);
      due.is("some, " + what, usual.count(what), some[what]);
      due.is("full, " + what, full.count(what), most[what]);
    }
    due.is("all orders cut: the last one", full.cut(5), 50000);
    due.is("all orders cut", full.count(7), 6);
    RopeWalk x = new RopeWalk();
    for (int p = 0; p < 120; p++) x.yarn(1, 1);
    due.is("all are free", x.count(1), 120);
  }
}
