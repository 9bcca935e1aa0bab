/** Makes pieces in one go, by calls of the public face alone. */
final class Make {
  static final int YARN = 0;
  static final int STRAND = 1;
  static final int ROPE = 2;
  static final int CABLE = 3;
  static final int TAPE = 4;
  static final int SPLICE = 5;
  static final int RIGHT = 1;
  static final int LEFT = 2;

  private Make() {
  }

  /** Picks just these parts, in this order, and lays them. */
  static int lay(RopeWalk x, int kind, int twist, int turns, int... parts) {
    x.drop();
    for (int p : parts) x.pick(p);
    return x.lay(kind, twist, turns);
  }

  /** A strand of two new yarns: three pieces. */
  static int strand(RopeWalk x, int length, int eighths, int twist) {
    return lay(x, STRAND, twist, 0, x.yarn(length, eighths), x.yarn(length, eighths));
  }

  /** A rope of three new strands: ten pieces, the rope the last of them. */
  static int rope(RopeWalk x, int length, int eighths, int twist) {
    int other = 3 - twist;
    return lay(x, ROPE, twist, 0, strand(x, length, eighths, other),
        strand(x, length, eighths, other), strand(x, length, eighths, other));
  }

  /** A cable of three new ropes: 31 pieces. */
  static int cable(RopeWalk x, int length, int eighths, int twist) {
    int other = 3 - twist;
    return lay(x, CABLE, twist, 0, rope(x, length, eighths, other), rope(x, length, eighths, other),
        rope(x, length, eighths, other));
  }

  /** A splice of two new ropes that lie side by side all along: 21 pieces. */
  static int splice(RopeWalk x, int length, int eighths, int twist) {
    return x.splice(rope(x, length, eighths, twist), rope(x, length, eighths, twist), length);
  }

  /** A free piece of each kind, by kind: 67 pieces. */
  static int[] eachKind(RopeWalk x, int length, int eighths, int twist) {
    return new int[] {x.yarn(length, eighths), strand(x, length, eighths, twist),
        rope(x, length, eighths, twist), cable(x, length, eighths, twist), x.tape(length, eighths),
        splice(x, length, eighths, twist)};
  }

  /** A strand that is gone, of two new yarns that are free again: three pieces. */
  static int gone(RopeWalk x, int length, int eighths) {
    int p = strand(x, length, eighths, LEFT);
    x.untwist(p);
    return p;
  }

  /** What each place of such a rope bears: 6 yarns, by 0.875 and 0.75. */
  static double ropeBears(int eighths) {
    return 6 * eighths * 0.125 * 0.875 * 0.75;
  }

  /** Gives the piece one spot, which is told. */
  static void wear(RopeWalk x, int p, int from, int to, int share) {
    x.row(p, 1);
    x.spot(p, 0, from, to, share);
  }

  static int wornYarn(RopeWalk x, int length, int eighths, int from, int to, int share) {
    int p = x.yarn(length, eighths);
    wear(x, p, from, to, share);
    return p;
  }
}
