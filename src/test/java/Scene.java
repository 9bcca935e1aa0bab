/** Objects in states worth looking at, made anew each time, and what can be asked of one. */
final class Scene {
  private Scene() {
  }

  /** Nothing there. */
  static RopeWalk empty() {
    return new RopeWalk();
  }

  /**
   * Of most things some. FREE: the splice 20 of the ropes 9 and 19, the yarns 21 and 22, which are
   * picked, and 26; LAID: 0 to 19; HUNG: the tape 24 on reel 2, the yarn 25 on reel 4; GONE: 23. Rows:
   * 20 of one spot, 21 of none, 22 of eight, 23 of two, 24 of three (the last untold), 9 of one.
   * Orders: 0 and 2 are cut, 1 fits nowhere, 3 is not cut. Two stages.
   */
  static RopeWalk usual() {
    RopeWalk x = new RopeWalk();
    int a = Make.rope(x, 20, 8, Make.LEFT);
    int b = Make.rope(x, 12, 8, Make.LEFT);
    int s = x.splice(a, b, 4);
    Make.wear(x, a, 3, 5, 6);
    Make.wear(x, s, 17, 18, 4);
    int g = Make.strand(x, 30, 16, Make.RIGHT);
    x.row(g, 2);
    x.spot(g, 1, 0, 3, 2);
    x.untwist(g);
    x.row(21, 0);
    x.row(22, 8);
    x.spot(22, 7, 29, 29, 1);
    x.tape(40, 64);
    x.row(24, 3);
    x.spot(24, 0, 10, 12, 4);
    x.spot(24, 1, 20, 20, 0);
    x.yarn(15, 8);
    x.yarn(1, 3);
    x.hang(2, 24);
    x.hang(4, 25);
    x.drop();
    x.pick(22);
    x.pick(21);
    x.order(9, 8);
    x.order(50, 8);
    x.order(3, 8);
    x.order(4, 4);
    x.cut(0);
    x.cut(2);
    x.stage(4);
    x.stage(3);
    return x;
  }

  /**
   * Of all things as many as there can be. FREE: the ropes 9 and 19, the tape 20, the splice 42 of the
   * ropes 31 and 41, the yarns 21, 43, 44, and 52 to 119; HUNG: the yarns 46 to 51 on the reels 0 to 5;
   * GONE: 45. 100 to 108 are picked; 60 and 61 have rows of eight spots; the orders 0 to 4 are cut.
   */
  static RopeWalk full() {
    RopeWalk x = new RopeWalk();
    Make.rope(x, 20, 8, Make.LEFT);
    Make.rope(x, 12, 8, Make.LEFT);
    x.tape(7, 7);
    x.yarn(8, 8);
    Make.splice(x, 14, 8, Make.LEFT);
    Make.gone(x, 9, 9);
    for (int p = 46; p < 120; p++) x.yarn(p - 40, p);
    for (int r = 0; r < 6; r++) x.hang(r, 46 + r);
    for (int p = 100; p < 109; p++) x.pick(p);
    for (int p = 60; p < 62; p++) x.row(p, 8);
    for (int i = 0; i < 8; i++) x.spot(60, i, i, 2 * i, i);
    for (int o = 0; o < 6; o++) x.order(6 + o, 46);
    for (int o = 0; o < 5; o++) x.cut(o);
    for (int k = 0; k < 10; k++) x.stage(k % 8 + 1);
    return x;
  }

  /** A tackle that binds, and reels that are empty again. */
  static RopeWalk bound() {
    RopeWalk x = new RopeWalk();
    x.yarn(10, 8);
    x.hang(0, 0);
    x.order(5, 8);
    x.cut(0);
    x.join(0);
    x.off(0);
    x.stage(5);
    x.stage(0);
    x.stage(2);
    return x;
  }

  /** What an object answers when it is asked for all that it holds; behind that it is of no use. */
  static String told(RopeWalk x) {
    StringBuilder text = new StringBuilder();
    for (int what = 0; what < 9; what++) text.append(x.count(what)).append(' ');
    int pieces = x.count(0);
    for (int p = 0; p < pieces; p++) {
      if (isNear(p, pieces)) tellPiece(x, p, text);
      else if (p < 20 || p > 90) text.append(p).append(": ").append(x.of(p, 3)).append('\n');
    }
    tellReels(x, text);
    tellTackle(x, text);
    tellPicked(x, text);
    return text.toString();
  }

  /** The pieces that are asked more than for their state, so that no object is asked too often. */
  private static boolean isNear(int p, int pieces) {
    return pieces < 30 ? p < 3 || p == 9 || p > 17 : p > 41 && p < 47 || p > 58 && p < 63;
  }

  private static void tellPiece(RopeWalk x, int p, StringBuilder text) {
    text.append(p).append(':');
    for (int what = 0; what < 8; what++) text.append(' ').append(x.of(p, what));
    int parts = x.of(p, 4);
    for (int k = 0; k < parts; k++) text.append(" part ").append(x.part(p, k));
    text.append(" least ").append(x.least(p)).append(" at ").append(x.where(p)).append('\n');
    int spots = x.of(p, 7);
    int length = x.of(p, 1);
    for (int at = 0; spots > 0 && at < length; at += 1 + length / 9) text.append(x.bears(p, at)).append(' ');
    for (int i = 0; i < spots; i++) text.append(x.spot(p, i, 0, 0, -1)).append(' ');
  }

  private static void tellReels(RopeWalk x, StringBuilder text) {
    text.append("fewest ").append(x.fewest()).append(" begun ").append(x.begun());
    for (int r = 0; r < 6; r++) text.append(" on ").append(x.take(r, 0));
    int orders = x.count(6);
    for (int o = 0; o < orders; o++) text.append(" joined ").append(x.join(o)).append(" cut ").append(x.cut(o));
    for (int r = 0; r < 6; r++) text.append(" off ").append(x.off(r));
    text.append(" order ").append(x.order(1, 1)).append('\n');
  }

  private static void tellTackle(RopeWalk x, StringBuilder text) {
    text.append(x.pull(999999, 0)).append(" by ").append(x.pull(999999, 1)).append(" stages");
    for (int k = 0; k < 10; k++) text.append(' ').append(x.unstage());
    text.append('\n');
  }

  /** What is picked, in its order, is told by the parts that it is laid into. */
  private static void tellPicked(RopeWalk x, StringBuilder text) {
    int pieces = x.count(0);
    text.append("picked ").append(x.count(5)).append(" laid ").append(x.lay(1, 1, 0));
    for (int k = 0; k < 9; k++) text.append(' ').append(x.part(pieces, k));
    text.append(" dropped ").append(x.drop()).append(" next ").append(x.yarn(1, 1));
  }
}
