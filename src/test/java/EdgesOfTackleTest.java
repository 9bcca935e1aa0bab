/** The edges that promises 31 to 34 name, one test for each of their sentences. */
public final class EdgesOfTackleTest {
  private static final Due due = new Due();

  public static void main(String[] args) {
    stageRopes();
    stageMost();
    unstageNone();
    unstageLatest();
    pullNoStages();
    pullLoads();
    pullWhats();
    pullBindsFirst();
    pullLowestTerms();
    pullMostStages();
    stressStages();
    stressLoads();
    stressWhats();
    stressUpToThisOne();
    stressAskedFirst();
    stressLowestTerms();
    due.end();
  }

  private static RopeWalk tackle(int... ropes) {
    RopeWalk x = new RopeWalk();
    for (int r : ropes) x.stage(r);
    return x;
  }

  private static long divisor(long a, long b) {
    return b == 0 ? a : divisor(b, a % b);
  }

  // ---- 31, 32 ----

  private static void stageRopes() {
    due.about("31 the ropes are not 0 .. 8");
    RopeWalk x = new RopeWalk();
    int made = 0;
    for (int ropes : new int[] {Integer.MIN_VALUE, -1, 0, 1, 7, 8, 9, 10, Integer.MAX_VALUE}) {
      boolean may = ropes >= 0 && ropes <= 8;
      due.is("stage(" + ropes + ")", x.stage(ropes), may ? ++made : -2);
      due.is("count(8)", x.count(8), made);
    }
    int[] want = {8, 7, 1, 0, -2};
    for (int w : want) due.is("unstage()", x.unstage(), w);
  }

  private static void stageMost() {
    due.about("31 or it has 10");
    RopeWalk x = new RopeWalk();
    for (int n = 1; n <= 10; n++) due.is("stage()", x.stage(n % 9), n);
    due.is("the eleventh", x.stage(0), -2);
    due.is("the eleventh", x.stage(8), -2);
    due.is("the eleventh, wrong as well", x.stage(9), -2);
    due.is("count(8)", x.count(8), 10);
    due.is("unstage()", x.unstage(), 1);
    due.is("the tenth again", x.stage(8), 10);
    due.is("the eleventh again", x.stage(8), -2);
  }

  private static void unstageNone() {
    due.about("32 -2 when there is none");
    RopeWalk x = new RopeWalk();
    due.is("at first", x.unstage(), -2);
    due.is("again", x.unstage(), -2);
    due.is("count(8)", x.count(8), 0);
    x.stage(5);
    due.is("one", x.unstage(), 5);
    due.is("none", x.unstage(), -2);
    due.is("the first again", x.stage(2), 1);
    due.is("its pull", x.pull(6, 0), 3);
  }

  private static void unstageLatest() {
    due.about("32 the latest stage goes: its ropes");
    RopeWalk x = tackle(0, 1, 2, 3, 4, 5, 6, 7, 8, 0);
    int[] want = {0, 8, 7, 6, 5, 4, 3, 2, 1, 0};
    for (int n = 0; n < 10; n++) {
      due.is("unstage()", x.unstage(), want[n]);
      due.is("count(8)", x.count(8), 9 - n);
      due.is("it is no stage any more", x.stress(9 - n, 1, 0), -2);
    }
    due.is("none", x.unstage(), -2);
  }

  // ---- 33 ----

  private static void pullNoStages() {
    due.about("33 no stages");
    RopeWalk x = new RopeWalk();
    for (int load : new int[] {0, 1, 2, 999999, 1000000}) {
      due.is("pull(" + load + ", 0)", x.pull(load, 0), load);
      due.is("pull(" + load + ", 1)", x.pull(load, 1), 1);
    }
  }

  private static void pullLoads() {
    due.about("33 this load (0 .. 1000000)");
    RopeWalk x = tackle(8);
    for (int what = 0; what <= 1; what++) {
      for (int load : new int[] {Integer.MIN_VALUE, -1, 1000001, Integer.MAX_VALUE}) {
        due.is("pull(" + load + ", " + what + ")", x.pull(load, what), -2);
      }
    }
    due.is("pull(0, 0)", x.pull(0, 0), 0);
    due.is("pull(0, 1)", x.pull(0, 1), 1);
    due.is("pull(1, 0)", x.pull(1, 0), 1);
    due.is("pull(1, 1)", x.pull(1, 1), 8);
    due.is("pull(1000000, 0)", x.pull(1000000, 0), 125000);
    due.is("pull(1000000, 1)", x.pull(1000000, 1), 1);
    due.is("pull(999999, 0)", x.pull(999999, 0), 999999);
    due.is("pull(999999, 1)", x.pull(999999, 1), 8);
  }

  private static void pullWhats() {
    due.about("33 what is above (what 0), below (1)");
    RopeWalk x = tackle(4);
    for (int what : new int[] {Integer.MIN_VALUE, -1, 2, Integer.MAX_VALUE}) {
      due.is("pull(6, " + what + ")", x.pull(6, what), -2);
      due.is("pull(-1, " + what + ")", x.pull(-1, what), -2);
      due.is("without stages", new RopeWalk().pull(6, what), -2);
    }
    due.is("pull(6, 0)", x.pull(6, 0), 3);
    due.is("pull(6, 1)", x.pull(6, 1), 2);
  }

  private static void pullBindsFirst() {
    due.about("33 -1 when the tackle binds (asked first)");
    int[][] tackles = {{0}, {0, 8}, {8, 0}, {1, 0, 1}, {0, 0}, {8, 8, 8, 8, 8, 8, 8, 8, 8, 0},
        {0, 8, 8, 8, 8, 8, 8, 8, 8, 8}};
    for (int[] t : tackles) {
      RopeWalk x = tackle(t);
      for (int load : new int[] {Integer.MIN_VALUE, -1, 0, 1000000, 1000001, Integer.MAX_VALUE}) {
        for (int what = -1; what <= 2; what++) due.is("pull(" + load + ", " + what + ")", x.pull(load, what), -1);
      }
    }
    RopeWalk y = tackle(8, 0);
    y.unstage();
    due.is("the 0 is gone", y.pull(-1, 0), -2);
    due.is("the 0 is gone", y.pull(8, 0), 1);
  }

  private static void pullLowestTerms() {
    due.about("33 a fraction in lowest terms");
    int[][] tackles = {{1}, {2}, {3}, {8}, {2, 3}, {6, 4}, {7, 5, 3}, {8, 8, 8}, {6, 6, 6, 6},
        {1, 1, 1, 1, 1, 1, 1, 1, 1, 1}};
    for (int[] t : tackles) {
      RopeWalk x = tackle(t);
      long below = 1;
      for (int r : t) below *= r;
      for (int load : new int[] {0, 1, 2, 3, 6, 35, 105, 210, 512, 1296, 720720, 999983, 1000000}) {
        long by = divisor(load, below);
        due.is(load + " by " + below + ", above", x.pull(load, 0), load / by);
        due.is(load + " by " + below + ", below", x.pull(load, 1), below / by);
      }
    }
  }

  private static void pullMostStages() {
    due.about("33 ten stages of eight ropes");
    RopeWalk x = tackle(8, 8, 8, 8, 8, 8, 8, 8, 8, 8);
    due.is("1 by 8^10", x.pull(1, 1), 1L << 30);
    due.is("0 by 8^10", x.pull(0, 1), 1);
    due.is("2^19 by 8^10, above", x.pull(1 << 19, 0), 1);
    due.is("2^19 by 8^10, below", x.pull(1 << 19, 1), 1L << 11);
    due.is("999999 by 8^10", x.pull(999999, 0), 999999);
    RopeWalk y = tackle(7, 7, 7, 7, 7, 7, 7, 7, 7, 7);
    due.is("1000000 by 7^10", y.pull(1000000, 1), 282475249L);
    due.is("7^7 by 7^10, above", y.pull(823543, 0), 1);
    due.is("7^7 by 7^10, below", y.pull(823543, 1), 343);
  }

  // ---- 34 ----

  private static void stressStages() {
    due.about("34 stage k, from 0 on");
    for (int count = 0; count <= 10; count++) {
      RopeWalk x = new RopeWalk();
      for (int n = 0; n < count; n++) x.stage(2);
      for (int k : new int[] {Integer.MIN_VALUE, -1, count, count + 1, 10, Integer.MAX_VALUE}) {
        due.is("stress(" + k + ", 1, 1) of " + count, x.stress(k, 1, 1), -2);
      }
      for (int k = 0; k < count; k++) due.is("stress(" + k + ", 1, 1) of " + count, x.stress(k, 1, 1), 2L << k);
    }
  }

  private static void stressLoads() {
    due.about("34 -2 for another load");
    RopeWalk x = tackle(8, 5);
    for (int k = 0; k <= 1; k++) {
      for (int load : new int[] {Integer.MIN_VALUE, -1, 1000001, Integer.MAX_VALUE}) {
        due.is("stress(" + k + ", " + load + ", 0)", x.stress(k, load, 0), -2);
        due.is("stress(" + k + ", " + load + ", 1)", x.stress(k, load, 1), -2);
      }
      due.is("stress(" + k + ", 0, 0)", x.stress(k, 0, 0), 0);
      due.is("stress(" + k + ", 0, 1)", x.stress(k, 0, 1), 1);
      due.is("stress(" + k + ", 1000000, 0)", x.stress(k, 1000000, 0), k == 0 ? 125000 : 25000);
      due.is("stress(" + k + ", 1000000, 1)", x.stress(k, 1000000, 1), 1);
    }
  }

  private static void stressWhats() {
    due.about("34 or what");
    RopeWalk x = tackle(4);
    for (int what : new int[] {Integer.MIN_VALUE, -1, 2, Integer.MAX_VALUE}) {
      due.is("stress(0, 6, " + what + ")", x.stress(0, 6, what), -2);
    }
    due.is("stress(0, 6, 0)", x.stress(0, 6, 0), 3);
    due.is("stress(0, 6, 1)", x.stress(0, 6, 1), 2);
  }

  private static void stressUpToThisOne() {
    due.about("34 the stages up to this one, this one too; -1 when one of these is 0");
    for (int at = 0; at < 10; at++) {
      RopeWalk x = new RopeWalk();
      for (int k = 0; k < 10; k++) x.stage(k == at ? 0 : 3);
      long below = 1;
      for (int k = 0; k < 10; k++) {
        below *= 3;
        due.is("0 at " + at + ", stress(" + k + ", 1, 1)", x.stress(k, 1, 1), k < at ? below : -1);
      }
    }
    RopeWalk y = tackle(2, 3, 5);
    due.is("30 by 2", y.stress(0, 30, 0), 15);
    due.is("30 by 6", y.stress(1, 30, 0), 5);
    due.is("30 by 30", y.stress(2, 30, 0), 1);
    due.is("as the pull", y.stress(2, 31, 1), y.pull(31, 1));
  }

  private static void stressAskedFirst() {
    due.about("34 -2 for another load, what or stage (all asked ahead of that)");
    RopeWalk x = tackle(0, 2);
    for (int k = 0; k <= 1; k++) {
      due.is("another load", x.stress(k, -1, 0), -2);
      due.is("another load", x.stress(k, 1000001, 0), -2);
      due.is("another what", x.stress(k, 5, -1), -2);
      due.is("another what", x.stress(k, 5, 2), -2);
      due.is("one is 0", x.stress(k, 5, 0), -1);
    }
    due.is("another stage", x.stress(-1, 5, 0), -2);
    due.is("another stage", x.stress(2, 5, 0), -2);
    due.is("all", x.stress(2, -1, 2), -2);
  }

  private static void stressLowestTerms() {
    due.about("34 likewise, in lowest terms");
    int[] ropes = {6, 4, 7, 8, 1, 5, 8, 3, 2, 8};
    RopeWalk x = tackle(ropes);
    long below = 1;
    for (int k = 0; k < 10; k++) {
      below *= ropes[k];
      for (int load : new int[] {0, 1, 36, 720720, 1000000}) {
        long by = divisor(load, below);
        due.is("stress(" + k + ", " + load + ", 0)", x.stress(k, load, 0), load / by);
        due.is("stress(" + k + ", " + load + ", 1)", x.stress(k, load, 1), below / by);
      }
    }
  }
}
