/** The boundary cases of SORTS, SIGNS (promises 3 to 6) and of PLANS, LINES, SOON (7 to 9). */
public final class PlanEdgesTest {
  private static final int UNKNOWN = -1, OUTSIDE = -2, NONE = -9, INDEX = -13;
  private static final int LOW = Integer.MIN_VALUE, HIGH = Integer.MAX_VALUE;
  /** p 5 letters, s 1, d 2, p 4, p 3: 10, 2, 16, 16, 9 seconds; signs {0 1}, {0 2}, {3 4}. */
  private static final String FIVE = "t;p521;s110;d232;p442;p333/03/05/24";
  /** Six SORTS, the dearest ones: 180 seconds each; five signs that take one SORT out each. */
  private static final String DEAREST = "t;d995;d995;d995;d995;d995;d990/01/02/04/08/16";

  public static void main(String[] args) {
    sorts();
    looks();
    lays();
    signs();
    plansAsked();
    plansCells();
    passes();
    idle();
    ready();
    soonSets();
    soonTimes();
    linesAsked();
    linesShort();
    Checks.end("PlanEdgesTest");
  }

  // ---- 3 to 6

  private static void sorts() {
    Checks.test("ofSort: SORTS 0 .. the last that there is", () -> {
      FloorType two = Checks.floorOf("t;p521;s110/01");
      FloorType six = Checks.floorOf(DEAREST);
      Checks.due("first of two", two.ofSort(0, 1), 5);
      Checks.due("last of two", two.ofSort(1, 1), 1);
      Checks.due("third of two", two.ofSort(2, 1), UNKNOWN);
      Checks.due("last of six", six.ofSort(5, 3), 0);
      Checks.due("seventh", six.ofSort(6, 1), UNKNOWN);
      Checks.due("below", six.ofSort(-1, 1), UNKNOWN);
      Checks.due("least", six.ofSort(LOW, 1), UNKNOWN);
      Checks.due("greatest", six.ofSort(HIGH, 1), UNKNOWN);
    });
    Checks.test("ofSort: what is 0 .. 4", () -> {
      FloorType x = Checks.floorOf(FIVE);
      int[] told = {2, 2, 3, 2, 8};
      for (int what = 0; what <= 4; what++) {
        Checks.due("what " + what, x.ofSort(2, what), told[what]);
      }
      for (int what : new int[] {LOW, -1, 5, HIGH}) {
        Checks.due("what " + what, x.ofSort(2, what), OUTSIDE);
      }
    });
    Checks.test("ofSort: least and greatest COUNT, SECONDS, ALIKE", () -> {
      FloorType x = Checks.floorOf("t;p010;p995/01");
      Checks.due("COUNT 0", x.ofSort(0, 1), 0);
      Checks.due("SECONDS 1", x.ofSort(0, 2), 1);
      Checks.due("ALIKE 0", x.ofSort(0, 3), 0);
      Checks.due("COUNT 9", x.ofSort(1, 1), 9);
      Checks.due("SECONDS 9", x.ofSort(1, 2), 9);
      Checks.due("ALIKE 5", x.ofSort(1, 3), 5);
    });
  }

  private static void looks() {
    Checks.test("LOOK of 1 second: 1, 2, 4", () -> {
      FloorType x = Checks.floorOf("t;p110;s110;d110/01");
      Checks.due("PICKING", x.ofSort(0, 4), 1);
      Checks.due("SURE", x.ofSort(1, 4), 2);
      Checks.due("DOUBTFUL", x.ofSort(2, 4), 4);
    });
    Checks.test("LOOK of 9 seconds: 9, 10, 20", () -> {
      FloorType x = Checks.floorOf("t;p190;s190;d190/01");
      Checks.due("PICKING", x.ofSort(0, 4), 9);
      Checks.due("SURE", x.ofSort(1, 4), 10);
      Checks.due("DOUBTFUL", x.ofSort(2, 4), 20);
    });
    Checks.test("LOOK is for one letter, were there none or nine", () -> {
      FloorType x = Checks.floorOf("t;d050;d950/01");
      Checks.due("of none", x.ofSort(0, 4), 12);
      Checks.due("of nine", x.ofSort(1, 4), 12);
    });
  }

  private static void lays() {
    Checks.test("lay: v is 0 .. 9", () -> {
      FloorType x = Checks.floorOf(FIVE);
      Checks.due("0", x.lay(4, 0), 3);
      Checks.due("9", x.lay(4, 9), 0);
      Checks.due("10", x.lay(4, 10), OUTSIDE);
      Checks.due("-1", x.lay(4, -1), OUTSIDE);
      Checks.due("least", x.lay(4, LOW), OUTSIDE);
      Checks.due("greatest", x.lay(4, HIGH), OUTSIDE);
      Checks.due("as it was", x.lay(4, 9), 9);
    });
    Checks.test("lay: SORTS 0 .. the last that there is", () -> {
      FloorType x = Checks.floorOf(FIVE);
      Checks.due("first", x.lay(0, 1), 5);
      Checks.due("last", x.lay(4, 1), 3);
      Checks.due("behind", x.lay(5, 1), UNKNOWN);
      Checks.due("below", x.lay(-1, 1), UNKNOWN);
      Checks.due("least", x.lay(LOW, 1), UNKNOWN);
      Checks.due("greatest", x.lay(HIGH, 1), UNKNOWN);
      Checks.due("letters", x.many(2), 1 + 1 + 2 + 4 + 1);
    });
  }

  private static void signs() {
    Checks.test("ofSign: SIGNS 0 .. the last that there is", () -> {
      FloorType x = Checks.floorOf(FIVE);
      Checks.due("first", x.ofSign(0), 3);
      Checks.due("last", x.ofSign(2), 24);
      for (int k : new int[] {LOW, -1, 3, 4, 5, HIGH}) {
        Checks.due("SIGN " + k, x.ofSign(k), UNKNOWN);
      }
      FloorType five = Checks.floorOf(DEAREST);
      Checks.due("fifth", five.ofSign(4), 16);
      Checks.due("sixth", five.ofSign(5), UNKNOWN);
    });
    Checks.test("sign: a set is 0 .. 63, of SORTS that there are or not", () -> {
      FloorType x = Checks.floorOf("t;p521;s110/01");
      Checks.due("63", x.sign(0, 63), 1);
      Checks.due("told", x.ofSign(0), 3);
      Checks.due("60", x.sign(0, 60), 3);
      Checks.due("none of those that there are", x.sign(0, 0), 0);
      Checks.due("64", x.sign(0, 64), OUTSIDE);
      Checks.due("-1", x.sign(0, -1), OUTSIDE);
      Checks.due("least", x.sign(0, LOW), OUTSIDE);
      Checks.due("greatest", x.sign(0, HIGH), OUTSIDE);
      Checks.due("stays", x.ofSign(0), 0);
    });
    Checks.test("sign: SIGNS 0 .. the last that there is", () -> {
      FloorType x = Checks.floorOf(FIVE);
      Checks.due("last", x.sign(2, 1), 24);
      for (int k : new int[] {LOW, -1, 3, 4, 5, HIGH}) {
        Checks.due("SIGN " + k, x.sign(k, 1), UNKNOWN);
      }
    });
    Checks.test("sign: of six SORTS 63 is all", () -> {
      FloorType x = Checks.floorOf(DEAREST);
      Checks.due("was", x.sign(4, 63), 16);
      Checks.due("told", x.ofSign(4), 63);
    });
  }

  // ---- 7

  private static FloorType planned(String text, int... plan) {
    FloorType x = Checks.floorOf(text);
    Checks.row(x, 1, plan);
    return x;
  }

  private static int whole(FloorType x, int n, int what) {
    return x.plan(1, 2, 0, n, what);
  }

  private static void plansAsked() {
    Checks.test("plan: n is 0 .. 20", () -> {
      FloorType x = planned(FIVE, new int[40]);
      Checks.due("0", whole(x, 0, 0), 0);
      Checks.due("20", whole(x, 20, 0), 20 * 53);
      for (int n : new int[] {LOW, -1, 21, 40, 60, HIGH}) {
        Checks.due("n " + n, whole(x, n, 0), OUTSIDE);
      }
    });
    Checks.test("plan: what is 0 .. 3, 10 .. 15, 20 .. 25", () -> {
      FloorType x = planned(FIVE, 0);
      int[] told = {53, NONE, 2, 0};
      for (int what = 0; what <= 3; what++) {
        Checks.due("what " + what, whole(x, 1, what), told[what]);
      }
      for (int s = 0; s <= 5; s++) {
        Checks.due("what " + (10 + s), whole(x, 1, 10 + s), NONE);
        Checks.due("what " + (20 + s), whole(x, 1, 20 + s), s < 2 ? 0 : s < 5 ? 2 : NONE);
      }
      for (int what : new int[] {LOW, -1, 4, 9, 16, 19, 26, 30, HIGH}) {
        Checks.due("what " + what, whole(x, 1, what), OUTSIDE);
      }
    });
    Checks.test("plan: NONE for a SORT that there is not", () -> {
      FloorType x = planned("t;p110;p110/01", 0);
      Checks.due("READY 1", whole(x, 1, 11), 2);
      Checks.due("least of 1", whole(x, 1, 21), 1);
      for (int s = 2; s <= 5; s++) {
        Checks.due("READY " + s, whole(x, 1, 10 + s), NONE);
        Checks.due("least of " + s, whole(x, 1, 20 + s), NONE);
      }
    });
    Checks.test("plan: the sixth SORT is told by 15 and 25", () -> {
      FloorType x = planned(DEAREST, 0, 1, 2, 3, 4);
      Checks.due("READY", whole(x, 5, 15), 180 * (6 + 5 + 4 + 3 + 2));
      Checks.due("least", whole(x, 5, 25), 5);
      Checks.due("READY by a shorter one", whole(x, 4, 15), NONE);
      Checks.due("least by a shorter one", whole(x, 4, 25), 4);
    });
  }

  private static void plansCells() {
    Checks.test("plan: a cell is a SIGN 0 .. the last that there is", () -> {
      FloorType x = planned(FIVE, 0, 2, 3, -1, LOW, HIGH);
      Checks.due("first", x.plan(1, 2, 0, 1, 0), 53);
      Checks.due("last", x.plan(1, 2, 1, 1, 0), 53);
      for (int i = 2; i < 6; i++) {
        Checks.due("cell " + i, x.plan(1, 2, i, 1, 0), UNKNOWN);
      }
    });
    Checks.test("plan: the first and the last of the cells are looked at, others are not", () -> {
      FloorType x = planned(FIVE, 9, 0, 1, 9);
      Checks.due("between", x.plan(1, 2, 1, 2, 0), 106);
      Checks.due("the first", x.plan(1, 2, 0, 3, 0), UNKNOWN);
      Checks.due("the last", x.plan(1, 2, 1, 3, 0), UNKNOWN);
    });
    Checks.test("plan: no cells, i is 0 .. how many there are", () -> {
      FloorType x = planned(FIVE, 9, 9);
      Checks.due("begin", x.plan(1, 2, 0, 0, 0), 0);
      Checks.due("end", x.plan(1, 2, 2, 0, 0), 0);
      Checks.due("behind", x.plan(1, 2, 3, 0, 0), INDEX);
      Checks.due("ahead", x.plan(1, 2, -1, 0, 0), INDEX);
      Checks.due("least", x.plan(1, 2, LOW, 0, 0), INDEX);
      Checks.due("greatest", x.plan(1, 2, HIGH, 20, 0), INDEX);
    });
    Checks.test("plan: the last cells of 60, and one beyond", () -> {
      FloorType x = planned(FIVE, new int[60]);
      Checks.due("40 .. 59", x.plan(1, 2, 40, 20, 0), 20 * 53);
      Checks.due("41 .. 60", x.plan(1, 2, 41, 20, 0), INDEX);
    });
    Checks.test("plan: cells of bytes and shorts as they were cut", () -> {
      FloorType x = Checks.floorOf(FIVE);
      Checks.rowOf(x, 1, 0, 256, 255, 128);
      Checks.due("256 is SIGN 0", x.plan(1, 0, 0, 1, 0), 53);
      Checks.due("255 is -1", x.plan(1, 0, 1, 1, 0), UNKNOWN);
      Checks.due("128 is -128", x.plan(1, 0, 2, 1, 0), UNKNOWN);
      Checks.rowOf(x, 2, 1, 65538, 32768);
      Checks.due("65538 is SIGN 2", x.plan(2, 1, 0, 1, 0), 53);
      Checks.due("32768 is below 0", x.plan(2, 1, 1, 1, 0), UNKNOWN);
    });
  }

  private static void passes() {
    Checks.test("a PLAN without a PASS: one HEAP, none READY", () -> {
      FloorType x = planned(FIVE);
      Checks.due("seconds", whole(x, 0, 0), 0);
      Checks.due("IDLE", whole(x, 0, 1), NONE);
      Checks.due("HEAPS", whole(x, 0, 2), 1);
      Checks.due("READY", whole(x, 0, 3), 0);
      for (int s = 0; s < 5; s++) {
        Checks.due("behind", whole(x, 0, 10 + s), NONE);
        Checks.due("least", whole(x, 0, 20 + s), 0);
      }
    });
    Checks.test("a HEAP of two SORTS takes its LOOKS, one of a SORT none", () -> {
      FloorType x = planned("t;p110;p120;p140/01/02", 0, 1, 1, 0);
      Checks.due("three", whole(x, 1, 0), 7);
      Checks.due("two", whole(x, 2, 0), 7 + 6);
      Checks.due("alone", whole(x, 3, 0), 7 + 6);
      Checks.due("alone still", whole(x, 4, 0), 7 + 6);
    });
    Checks.test("one of both parts may be none: the PASS takes its seconds", () -> {
      FloorType x = planned("t;p110;p120/00/63/01", 0, 1, 2);
      Checks.due("none has it", whole(x, 1, 0), 3);
      Checks.due("HEAPS", whole(x, 1, 2), 1);
      Checks.due("all have it", whole(x, 2, 0), 6);
      Checks.due("HEAPS", whole(x, 2, 2), 1);
      Checks.due("one has it", whole(x, 3, 0), 9);
      Checks.due("HEAPS", whole(x, 3, 2), 2);
    });
    Checks.test("SORTS of 0 letters lie there, too", () -> {
      FloorType x = planned("t;p090;p090/01", 0);
      Checks.due("HEAPS at first", whole(x, 0, 2), 1);
      Checks.due("seconds", whole(x, 1, 0), 0);
      Checks.due("HEAPS", whole(x, 1, 2), 2);
      Checks.due("READY", whole(x, 1, 3), 3);
      Checks.due("READY behind 0 seconds", whole(x, 1, 10), 0);
      Checks.due("not READY ahead of it", whole(x, 0, 10), NONE);
    });
    Checks.test("a SORT of 0 letters keeps another from lying alone", () -> {
      FloorType x = planned("t;p310;p090;p110/04", 0);
      Checks.due("READY", whole(x, 1, 3), 4);
      Checks.due("seconds", whole(x, 1, 0), 4);
    });
    Checks.test("the most seconds: 54 DOUBTFUL letters, 20 idle PASSES", () -> {
      FloorType x = planned("t;d995;d995;d995;d995;d995;d990/00", new int[20]);
      Checks.due("seconds", whole(x, 20, 0), 20 * 54 * 20);
      Checks.due("HEAPS", whole(x, 20, 2), 1);
    });
    Checks.test("the most HEAPS: six of one SORT each", () -> {
      FloorType x = planned(DEAREST, 0, 1, 2, 3, 4);
      Checks.due("HEAPS", whole(x, 5, 2), 6);
      Checks.due("READY", whole(x, 5, 3), 63);
    });
    Checks.test("letters laid and signs changed later count", () -> {
      FloorType x = planned("t;p110;p120/00", 0);
      x.lay(0, 9);
      Checks.due("seconds", whole(x, 1, 0), 11);
      x.sign(0, 1);
      Checks.due("HEAPS", whole(x, 1, 2), 2);
    });
  }

  private static void idle() {
    Checks.test("IDLE: the first PASS of all is 0", () -> {
      FloorType x = planned("t;p110;p120/00/01", 0, 1);
      Checks.due("0", whole(x, 2, 1), 0);
    });
    Checks.test("IDLE: the first of several", () -> {
      FloorType x = planned(FIVE, 0, 1, 0, 1, 0);
      Checks.due("2", whole(x, 5, 1), 2);
      Checks.due("2 is the last", whole(x, 3, 1), 2);
      Checks.due("none as yet", whole(x, 2, 1), NONE);
    });
    Checks.test("IDLE is counted from the PLAN's begin", () -> {
      FloorType x = planned(FIVE, 0, 0, 1, 1);
      Checks.due("from 0 on", x.plan(1, 2, 0, 4, 1), 1);
      Checks.due("from 1 on", x.plan(1, 2, 1, 3, 1), 2);
      Checks.due("from 2 on", x.plan(1, 2, 2, 2, 1), 1);
    });
    Checks.test("IDLE: when all are READY, no HEAP is parted", () -> {
      FloorType x = planned("t;p110;p120/01/02", 0, 1);
      Checks.due("1", whole(x, 2, 1), 1);
      Checks.due("seconds", whole(x, 2, 0), 3);
    });
    Checks.test("not IDLE: one HEAP of several is parted", () -> {
      FloorType x = planned("t;p110;p110;p110;p110/03/01", 0, 1);
      Checks.due("none", whole(x, 2, 1), NONE);
      Checks.due("HEAPS", whole(x, 2, 2), 3);
    });
    Checks.test("not IDLE: a HEAP of 0 letters is parted in 0 seconds", () -> {
      FloorType x = planned("t;p010;p010/01", 0);
      Checks.due("none", whole(x, 1, 1), NONE);
    });
    Checks.test("IDLE: the latest that can be, where every PASS ahead parts a HEAP", () -> {
      // five PASSES part at the most: so the sixth is the latest IDLE that can be
      FloorType x = planned(DEAREST, 4, 3, 2, 1, 0, 0, 0, 0, 0, 0, 0, 0, 0, 0, 0, 0, 0, 0, 0, 0);
      Checks.due("5", whole(x, 20, 1), 5);
      Checks.due("none of five", whole(x, 5, 1), NONE);
    });
  }

  private static void ready() {
    Checks.test("READY: by the first PASS, both of two SORTS", () -> {
      FloorType x = planned("t;p110;p120/02", 0, 0, 0);
      Checks.due("0", whole(x, 1, 10), 3);
      Checks.due("1", whole(x, 1, 11), 3);
      Checks.due("later PASSES don't matter", whole(x, 3, 11), 3);
    });
    Checks.test("READY behind whole PASSES, also where another HEAP is looked at longer", () -> {
      FloorType x = planned("t;p110;p120;p140;p180/03/05", 0, 1);
      Checks.due("0", whole(x, 2, 10), 15 + 15);
      Checks.due("3", whole(x, 2, 13), 15 + 15);
    });
    Checks.test("the least SORT of its HEAP: itself, if alone or least", () -> {
      FloorType x = planned(FIVE, 0, 1);
      int[] told = {0, 1, 2, 3, 3};
      for (int s = 0; s < 5; s++) {
        Checks.due("of " + s, whole(x, 2, 20 + s), told[s]);
      }
    });
  }

  // ---- 9

  private static void soonSets() {
    Checks.test("soon: a set is 0 .. all SORTS that there are", () -> {
      FloorType x = planned("t;p110;p120/01", 0);
      Checks.due("none", x.soon(0, 1, 2, 0, 1), 0);
      Checks.due("all", x.soon(3, 1, 2, 0, 1), 3);
      for (int set : new int[] {LOW, -1, 4, 7, 63, 64, HIGH}) {
        Checks.due("set " + set, x.soon(set, 1, 2, 0, 1), OUTSIDE);
      }
    });
    Checks.test("soon: of six SORTS 63 is all, 64 is OUTSIDE", () -> {
      FloorType x = planned(DEAREST, 0, 1, 2, 3, 4);
      Checks.due("63", x.soon(63, 1, 2, 0, 5), 3600);
      Checks.due("32", x.soon(32, 1, 2, 0, 5), 3600);
      Checks.due("64", x.soon(64, 1, 2, 0, 5), OUTSIDE);
    });
    Checks.test("soon: n is 0 .. 20", () -> {
      FloorType x = planned(FIVE, new int[40]);
      Checks.due("0", x.soon(0, 1, 2, 0, 0), 0);
      Checks.due("20", x.soon(1, 1, 2, 0, 20), NONE);
      for (int n : new int[] {LOW, -1, 21, 40, HIGH}) {
        Checks.due("n " + n, x.soon(0, 1, 2, 0, n), OUTSIDE);
      }
    });
    Checks.test("soon: no cells, i is 0 .. how many there are", () -> {
      FloorType x = planned(FIVE, 9, 9);
      Checks.due("end", x.soon(0, 1, 2, 2, 0), 0);
      Checks.due("behind", x.soon(0, 1, 2, 3, 0), INDEX);
      Checks.due("ahead", x.soon(0, 1, 2, -1, 0), INDEX);
      Checks.due("greatest", x.soon(0, 1, 2, HIGH, 20), INDEX);
    });
    Checks.test("soon: a cell is a SIGN 0 .. the last that there is", () -> {
      FloorType x = planned(FIVE, 2, 3, -1, LOW, HIGH);
      Checks.due("last", x.soon(0, 1, 2, 0, 1), 0);
      for (int i = 1; i < 5; i++) {
        Checks.due("cell " + i, x.soon(0, 1, 2, i, 1), UNKNOWN);
      }
    });
  }

  private static void soonTimes() {
    Checks.test("soon: 0 of none, be the PLAN long or empty", () -> {
      FloorType x = planned(FIVE, 0, 1, 2);
      Checks.due("empty", x.soon(0, 1, 2, 0, 0), 0);
      Checks.due("long", x.soon(0, 1, 2, 0, 3), 0);
    });
    Checks.test("soon: NONE, if but one of the set is never READY", () -> {
      FloorType x = planned(FIVE, 0, 1, 2);
      Checks.due("0, 1, 2", x.soon(7, 1, 2, 0, 3), 106);
      Checks.due("3", x.soon(8, 1, 2, 0, 3), NONE);
      Checks.due("0 and 4", x.soon(17, 1, 2, 0, 3), NONE);
      Checks.due("0 by no PASS", x.soon(1, 1, 2, 0, 0), NONE);
    });
    Checks.test("soon: the latest of the set", () -> {
      FloorType x = planned(DEAREST, 0, 1, 2, 3, 4);
      Checks.due("0", x.soon(1, 1, 2, 0, 5), 1080);
      Checks.due("0 and 1", x.soon(3, 1, 2, 0, 5), 1080 + 900);
      Checks.due("0 and 3", x.soon(9, 1, 2, 0, 5), 1080 + 900 + 720 + 540);
      Checks.due("4", x.soon(16, 1, 2, 0, 5), 3600);
    });
    Checks.test("soon: READY behind 0 seconds is 0, not NONE", () -> {
      FloorType x = planned("t;p090;p090/01", 0);
      Checks.due("both", x.soon(3, 1, 2, 0, 1), 0);
      Checks.due("by no PASS", x.soon(3, 1, 2, 0, 0), NONE);
    });
    Checks.test("soon: by the last of twenty PASSES", () -> {
      int[] plan = new int[20];
      plan[19] = 1;
      FloorType x = planned("t;p110;p120/00/01", plan);
      Checks.due("twenty", x.soon(2, 1, 2, 0, 20), 60);
      Checks.due("nineteen", x.soon(2, 1, 2, 0, 19), NONE);
    });
  }

  // ---- 8

  private static void linesAsked() {
    Checks.test("line: n is 0 .. 60", () -> {
      FloorType x = planned(FIVE, new int[60]);
      Checks.due("0", x.line(1, 2, 0, 0), NONE);
      Checks.due("60", x.line(1, 2, 0, 60), 5);
      for (int n : new int[] {LOW, -1, 61, HIGH}) {
        Checks.due("n " + n, x.line(1, 2, 0, n), OUTSIDE);
      }
    });
    Checks.test("line: no letters, i is 0 .. how many cells there are", () -> {
      FloorType x = planned(FIVE, new int[60]);
      Checks.due("end", x.line(1, 2, 60, 0), NONE);
      Checks.due("behind", x.line(1, 2, 61, 0), INDEX);
      Checks.due("ahead", x.line(1, 2, -1, 0), INDEX);
      Checks.due("one too many", x.line(1, 2, 1, 60), INDEX);
      Checks.due("greatest", x.line(1, 2, HIGH, 60), INDEX);
      Checks.due("least", x.line(1, 2, LOW, 60), INDEX);
    });
    Checks.test("line: a cell is a SORT 0 .. the last that there is", () -> {
      FloorType x = planned(FIVE, 0, 4, 5, -1, LOW, HIGH);
      Checks.due("first", x.line(1, 2, 0, 1), NONE);
      Checks.due("last", x.line(1, 2, 1, 1), NONE);
      for (int i = 2; i < 6; i++) {
        Checks.due("cell " + i, x.line(1, 2, i, 1), UNKNOWN);
      }
    });
    Checks.test("line: a SORT that there is not behind a SHORT letter", () -> {
      FloorType x = planned(FIVE, 1, 1, 5);
      Checks.due("SHORT", x.line(1, 2, 0, 2), 1);
      Checks.due("no such SORT", x.line(1, 2, 0, 3), UNKNOWN);
    });
  }

  private static void linesShort() {
    Checks.test("SHORT: COUNT letters are there, one more is not", () -> {
      FloorType x = planned("t;p910;p010/01", new int[10]);
      Checks.due("nine", x.line(1, 2, 0, 9), NONE);
      Checks.due("ten", x.line(1, 2, 0, 10), 9);
    });
    Checks.test("SHORT: of a SORT of 0 letters the first one", () -> {
      FloorType x = planned("t;p910;p010/01", 1, 0, 1);
      Checks.due("at once", x.line(1, 2, 0, 1), 0);
      Checks.due("behind another", x.line(1, 2, 1, 2), 1);
    });
    Checks.test("SHORT: the first of several that are", () -> {
      FloorType x = planned(FIVE, 0, 1, 1, 2, 2, 2, 1);
      Checks.due("the second 1", x.line(1, 2, 0, 7), 2);
      Checks.due("the third 2", x.line(1, 2, 2, 4), 3);
    });
    Checks.test("SHORT: all 54 letters are set, then none is left", () -> {
      int[] line = new int[60];
      for (int at = 0; at < 60; at++) {
        line[at] = at % 6;
      }
      FloorType x = planned(DEAREST, line);
      Checks.due("54", x.line(1, 2, 0, 54), NONE);
      Checks.due("55", x.line(1, 2, 0, 55), 54);
      Checks.due("60", x.line(1, 2, 0, 60), 54);
    });
    Checks.test("a LINE takes no letters away", () -> {
      FloorType x = planned("t;p110;p010/01", 0);
      Checks.due("once", x.line(1, 2, 0, 1), NONE);
      Checks.due("again", x.line(1, 2, 0, 1), NONE);
      Checks.due("letters", x.many(2), 1);
    });
    Checks.test("SHORT by the letters that are laid then", () -> {
      FloorType x = planned("t;p910;p010/01", 0, 0);
      x.lay(0, 1);
      Checks.due("one is left", x.line(1, 2, 0, 2), 1);
      x.lay(0, 2);
      Checks.due("two", x.line(1, 2, 0, 2), NONE);
    });
  }
}
