/** The boundary cases of a new object (promise 1), of TELLING, DROPPED, kinds (23 to 25), TRACE, FAULTS, many (26 to 28). */
public final class PartEdgesTest {
  private static final int UNKNOWN = -1, OUTSIDE = -2, STATE = -3;
  private static final int NULL = -11, CAST = -12, INDEX = -13, SIZE = -14;
  private static final long LOST = Long.MIN_VALUE;
  private static final int LOW = Integer.MIN_VALUE, HIGH = Integer.MAX_VALUE;
  private static final String FIVE = "t;p521;s110;d232;p442;p333/03/05/24";
  private static final String DEAREST = "t;d995;d995;d995;d995;d995;d990/01/02/04/08/16";
  private static final int[] NO_SORTS = {LOW, -1, 5, 6, HIGH};

  public static void main(String[] args) {
    newObject();
    newObjects();
    tells();
    drops();
    kinds();
    traces();
    faultsOfEach();
    faultsGoneAndKept();
    many();
    manyCalls();
    Checks.end("PartEdgesTest");
  }

  // ---- 1

  private static void newObject() {
    Checks.test("a new object: no SORT, no SIGN, whatever is asked of them", () -> {
      FloorType x = new FloorType();
      for (int s : new int[] {LOW, -1, 0, 5, HIGH}) {
        Checks.due("ofSort", x.ofSort(s, 0), UNKNOWN);
        Checks.due("ofSign", x.ofSign(s), UNKNOWN);
        Checks.due("lay", x.lay(s, 0), UNKNOWN);
        Checks.due("sign", x.sign(s, 0), UNKNOWN);
        Checks.due("odds", x.odds(s, 0, 0), LOST);
        Checks.due("counts", x.counts(s), UNKNOWN);
        Checks.due("kinds", x.kinds(s), UNKNOWN);
        Checks.due("speeds", x.speeds(s), UNKNOWN);
        Checks.due("tell", x.tell(s), UNKNOWN);
        Checks.due("drop", x.drop(s), UNKNOWN);
        Checks.due("as", x.as(s, 0), UNKNOWN);
      }
    });
    Checks.test("a new object: no FLOOR is STATE, also with a row of no cells", () -> {
      FloorType x = new FloorType();
      x.sheet(0, 0, 0);
      Checks.due("plan", x.plan(0, 0, 0, 0, 0), STATE);
      Checks.due("line", x.line(0, 0, 0, 0), STATE);
      Checks.due("soon", x.soon(0, 0, 0, 0, 0), STATE);
      Checks.due("order", x.order(-1), STATE);
      Checks.due("tree", x.tree(0), STATE);
      Checks.due("reading", x.reading(0, 0), STATE);
    });
    Checks.test("a new object: SHEETS have nothing", () -> {
      FloorType x = new FloorType();
      for (int k = 0; k < 4; k++) {
        Checks.due("put", x.put(k, 0, 0), NULL);
        Checks.due("lose", x.lose(k), 0);
      }
    });
    Checks.test("a new object: TRACE, FAULT, how many are 0", () -> {
      FloorType x = new FloorType();
      Checks.due("TRACE", x.trace(), 0);
      Checks.due("FAULT", x.fault(), 0);
      for (int what = 0; what <= 3; what++) {
        Checks.due("many", x.many(what), 0);
      }
    });
  }

  private static void newObjects() {
    Checks.test("two objects know nothing of each other", () -> {
      FloorType x = Checks.floorOf(FIVE);
      x.reading(1, 9);
      x.tell(2);
      x.as(0, 1);
      FloorType y = new FloorType();
      Checks.due("SORTS", y.many(0), 0);
      Checks.due("SHEET", y.lose(0), 0);
      Checks.due("TRACE", y.trace(), 0);
      Checks.due("FAULT", y.fault(), 0);
      Checks.read(y, DEAREST);
      y.order(-1);
      Checks.due("SORTS of the first", x.many(0), 5);
      Checks.due("ORDER of the first", x.order(-1), -9);
      Checks.due("READINGS of the first", x.many(3), 1);
    });
  }

  // ---- 23 to 25

  private static void tells() {
    Checks.test("TELLING of SECONDS 1 and 9", () -> {
      FloorType x = Checks.floorOf("t;p110;s110;d110;p190;s190;d190/01");
      int[] told = {1, 101, 102, 9, 109, 118};
      for (int s = 0; s < 6; s++) {
        Checks.due("of " + s, x.tell(s), told[s]);
      }
    });
    Checks.test("TELLING: numbers in TRACE as bodies begin", () -> {
      int[] told = {1, 2 * 31 + 1, ((3 * 31 + 2) * 31 + 1) * 31 + 1};
      for (int s = 0; s < 3; s++) {
        FloorType x = Checks.floorOf("t;p110;s110;d110/01");
        x.tell(s);
        Checks.due("of " + s, x.trace(), told[s]);
      }
    });
    Checks.test("TELLING of a SORT of 0 letters", () -> {
      FloorType x = Checks.floorOf("t;d010;p990/01");
      Checks.due("of it", x.tell(0), 102);
      x.lay(1, 0);
      Checks.due("of one laid away", x.tell(1), 9);
    });
    Checks.test("tell: SORTS 0 .. the last that there is; others leave no TRACE", () -> {
      FloorType x = Checks.floorOf(FIVE);
      Checks.due("last", x.tell(4), 3);
      for (int s : NO_SORTS) {
        Checks.due("SORT " + s, x.tell(s), UNKNOWN);
      }
      Checks.due("TRACE", x.trace(), 1);
    });
  }

  private static void drops() {
    Checks.test("DROPPED: the number of the SORT, 0 .. 5; 70 of a DOUBTFUL one", () -> {
      FloorType x = Checks.floorOf("t;p110;d110;s110;p110;d110;s110/01");
      int[] told = {0, 70, 2, 3, 70, 5};
      for (int s = 0; s < 6; s++) {
        Checks.due("of " + s, x.drop(s), told[s]);
      }
    });
    Checks.test("DROPPED: 4 or 5 in TRACE", () -> {
      FloorType x = Checks.floorOf("t;p110;s110;d110/01");
      x.drop(0);
      Checks.due("PICKING", x.trace(), 4);
      x.drop(1);
      Checks.due("SURE", x.trace(), 4 * 31 + 4);
      x.drop(2);
      Checks.due("DOUBTFUL", x.trace(), (4 * 31 + 4) * 31 + 5);
    });
    Checks.test("drop: SORTS 0 .. the last that there is; others leave no TRACE", () -> {
      FloorType x = Checks.floorOf(FIVE);
      Checks.due("last", x.drop(4), 4);
      for (int s : NO_SORTS) {
        Checks.due("SORT " + s, x.drop(s), UNKNOWN);
      }
      Checks.due("TRACE", x.trace(), 4);
    });
  }

  private static void kinds() {
    Checks.test("as: a SURE is a PICKING, a DOUBTFUL a SURE, but not the other way", () -> {
      FloorType x = Checks.floorOf("t;p110;s110;d110/01");
      int[][] due = {{1, CAST, CAST}, {1, 1, CAST}, {1, 1, 1}};
      for (int s = 0; s < 3; s++) {
        for (int kind = 0; kind < 3; kind++) {
          Checks.due(s + " as " + kind, x.as(s, kind), due[s][kind]);
          Checks.due("fault", x.fault(), due[s][kind] == CAST ? 2 : 0);
        }
      }
    });
    Checks.test("as: kinds 0 .. 2", () -> {
      FloorType x = Checks.floorOf("t;d110;p110/01");
      for (int kind : new int[] {LOW, -1, 3, HIGH}) {
        Checks.due("kind " + kind, x.as(0, kind), OUTSIDE);
        Checks.due("of a PICKING", x.as(1, kind), OUTSIDE);
        Checks.due("no FAULT", x.fault(), 0);
      }
    });
    Checks.test("as: SORTS 0 .. the last that there is", () -> {
      FloorType x = Checks.floorOf(FIVE);
      Checks.due("first", x.as(0, 0), 1);
      Checks.due("last", x.as(4, 0), 1);
      for (int s : NO_SORTS) {
        Checks.due("SORT " + s, x.as(s, 0), UNKNOWN);
      }
    });
    Checks.test("as leaves no TRACE and the kind as it is", () -> {
      FloorType x = Checks.floorOf(FIVE);
      x.as(2, 0);
      Checks.due("TRACE", x.trace(), 0);
      Checks.due("kind", x.ofSort(2, 0), 2);
      Checks.due("TELLING", x.tell(2), 106);
    });
  }

  // ---- 26

  private static void traces() {
    Checks.test("TRACE: an int that wraps", () -> {
      FloorType x = Checks.floorOf("t;p110;d110/01");
      long exact = 0;
      boolean wrapped = false;
      for (int call = 0; call < 100; call++) {
        x.drop(1);
        exact = 31L * (int) exact + 5;
        wrapped |= exact != (int) exact;
        Checks.due("behind " + (call + 1), x.trace(), (int) exact);
      }
      Checks.holds("it did wrap", wrapped);
    });
    Checks.test("TRACE wraps within one call, too", () -> {
      FloorType x = Checks.floorOf("t;p110;d110/01");
      int want = 0;
      for (int call = 0; call < 20; call++) {
        x.tell(1);
        for (int number : new int[] {3, 2, 1, 1}) {
          want = 31 * want + number;
        }
        Checks.due("behind " + (call + 1), x.trace(), want);
      }
    });
    Checks.test("TRACE: asking for it leaves it", () -> {
      FloorType x = Checks.floorOf(FIVE);
      x.drop(0);
      Checks.due("once", x.trace(), 4);
      Checks.due("again", x.trace(), 4);
    });
    Checks.test("TRACE: no other call leaves a number", () -> {
      FloorType x = Checks.floorOf(FIVE);
      x.drop(0);
      x.order(-1);
      x.tree(0);
      x.plan(0, 2, 0, 0, 0);
      x.kinds(0);
      x.ofSort(2, 4);
      x.as(2, 1);
      Checks.read(x, DEAREST);
      Checks.due("TRACE", x.trace(), 4);
    });
  }

  // ---- 27

  private static void fault(String call, long got, long want, FloorType x) {
    Checks.due(call, got, want);
    Checks.due("fault of " + call, x.fault(), -10 - want);
  }

  private static void faultsOfEach() {
    Checks.test("FAULT 1, NULL: of each call that names it", () -> {
      FloorType x = Checks.floorOf(FIVE);
      fault("floor", x.floor(3, 0, 0, 0), NULL, x);
      fault("plan", x.plan(3, 0, 0, 0, 0), NULL, x);
      fault("line", x.line(3, 0, 0, 0), NULL, x);
      fault("soon", x.soon(0, 3, 0, 0, 0), NULL, x);
      fault("put", x.put(3, 0, 0), NULL, x);
      fault("copy", x.copy(3, 0, 0, 0, 0), NULL, x);
    });
    Checks.test("FAULT 2, CAST: of each call that names it", () -> {
      FloorType x = Checks.floorOf(FIVE);
      x.sheet(3, 1, 1);
      fault("floor", x.floor(3, 0, 0, 0), CAST, x);
      fault("plan", x.plan(3, 2, 0, 0, 0), CAST, x);
      fault("line", x.line(3, 0, 0, 0), CAST, x);
      fault("soon", x.soon(0, 3, 2, 0, 0), CAST, x);
      fault("copy", x.copy(3, 0, 0, 0, 0), CAST, x);
      fault("as", x.as(0, 2), CAST, x);
    });
    Checks.test("FAULT 3, INDEX: of each call that names it", () -> {
      FloorType x = Checks.floorOf(FIVE);
      x.sheet(3, 1, 1);
      fault("floor", x.floor(3, 1, 0, 2), INDEX, x);
      fault("plan", x.plan(3, 1, 1, 1, 0), INDEX, x);
      fault("line", x.line(3, 1, 0, 2), INDEX, x);
      fault("soon", x.soon(0, 3, 1, 2, 0), INDEX, x);
      fault("put", x.put(3, 1, 0), INDEX, x);
      fault("copy", x.copy(3, 0, 3, 1, 1), INDEX, x);
    });
    Checks.test("FAULT 4, SIZE: of each call that names it", () -> {
      FloorType x = Checks.floorOf(FIVE);
      fault("floor", x.floor(0, 2, 0, -1), SIZE, x);
      fault("sheet", x.sheet(0, 2, -1), SIZE, x);
    });
    Checks.test("FAULT of cell: LOST is answered, the FAULT is told", () -> {
      FloorType x = Checks.floorOf(FIVE);
      Checks.due("NULL", x.cell(3, 0, 0), LOST);
      Checks.due("1", x.fault(), 1);
      Checks.due("CAST", x.cell(0, 0, 0), LOST);
      Checks.due("2", x.fault(), 2);
      Checks.due("INDEX", x.cell(0, -1, 2), LOST);
      Checks.due("3", x.fault(), 3);
    });
  }

  private static void faultsGoneAndKept() {
    Checks.test("FAULT 0: the latest call that names one came to none", () -> {
      FloorType x = Checks.floorOf(FIVE);
      Checks.row(x, 1, 0);
      for (int call = 0; call < 10; call++) {
        x.as(0, 2);
        Checks.due("CAST ahead of " + call, x.fault(), 2);
        fine(x, call);
        Checks.due("none behind " + call, x.fault(), 0);
      }
    });
    Checks.test("FAULT: asking for it leaves it", () -> {
      FloorType x = Checks.floorOf(FIVE);
      x.as(0, 2);
      Checks.due("once", x.fault(), 2);
      Checks.due("again", x.fault(), 2);
    });
    Checks.test("FAULT: calls that name none leave it, fine or refused", () -> {
      FloorType x = Checks.floorOf(FIVE);
      for (int a : new int[] {0, 99}) {
        x.as(0, 2);
        x.ofSort(a, 0);
        x.ofSign(a);
        x.lay(a, 5);
        x.sign(a, 3);
        x.order(a);
        x.tree(a);
        x.odds(a, 0, 0);
        x.reading(a, 0);
        x.back(a);
        x.counts(a);
        x.kinds(a);
        x.speeds(a);
        x.lose(a == 0 ? 3 : a);
        x.tell(a);
        x.drop(a);
        x.trace();
        x.many(a);
        Checks.due("CAST still", x.fault(), 2);
      }
    });
  }

  /** Calls that name FAULTS and come to none. */
  private static void fine(FloorType x, int call) {
    switch (call) {
      case 0 -> Checks.due("floor", x.floor(0, 2, 0, 35), 5);
      case 1 -> Checks.due("floor of no TEXT", x.floor(0, 2, 0, 0), -100);
      case 2 -> Checks.due("plan", x.plan(1, 2, 0, 1, 0), 53);
      case 3 -> Checks.due("line", x.line(1, 2, 0, 1), -9);
      case 4 -> Checks.due("soon", x.soon(0, 1, 2, 0, 1), 0);
      case 5 -> Checks.due("sheet", x.sheet(2, 2, 1), 1);
      case 6 -> Checks.due("put", x.put(2, 0, 1), 1);
      case 7 -> Checks.due("cell", x.cell(2, 0, 2), 1);
      case 8 -> Checks.due("copy", x.copy(2, 0, 1, 0, 0), 0);
      default -> Checks.due("as", x.as(0, 0), 1);
    }
  }

  // ---- 28

  private static void many() {
    Checks.test("many: what is 0 .. 3, with and without a FLOOR", () -> {
      for (FloorType x : new FloorType[] {new FloorType(), Checks.floorOf(FIVE)}) {
        int sorts = x.many(0);
        Checks.due("3", x.many(3), 0);
        for (int what : new int[] {LOW, -1, 4, HIGH}) {
          Checks.due("what " + what, x.many(what), OUTSIDE);
        }
        Checks.due("0", x.many(0), sorts);
      }
    });
    Checks.test("many: the fewest", () -> {
      FloorType x = Checks.floorOf("t;p010;p010/00");
      int[] told = {2, 1, 0, 0};
      for (int what = 0; what <= 3; what++) {
        Checks.due("what " + what, x.many(what), told[what]);
      }
    });
    Checks.test("many: the most", () -> {
      FloorType x = Checks.floorOf(DEAREST);
      for (int r = 0; r < 9; r++) {
        x.reading(0, 0);
      }
      int[] told = {6, 5, 54, 8};
      for (int what = 0; what <= 3; what++) {
        Checks.due("what " + what, x.many(what), told[what]);
      }
    });
    Checks.test("many: a TEXT that is not taken leaves 0 without a FLOOR", () -> {
      FloorType x = new FloorType();
      Checks.due("a sixth SIGN", Checks.read(x, "t;p110;p110/01/01/01/01/01/01"), -126);
      for (int what = 0; what <= 3; what++) {
        Checks.due("what " + what, x.many(what), 0);
      }
    });
  }

  // ---- how long an object is used

  private static void manyCalls() {
    Checks.test("512 calls of one object: the last one is right", () -> {
      FloorType x = new FloorType();
      int want = 0;
      Checks.read(x, "t;p110;d110/01");
      for (int call = 17; call < 511; call++) {
        x.drop(1);
        want = 31 * want + 5;
      }
      Checks.due("the 512th", x.trace(), want);
    });
    Checks.test("512 calls: the dearest ones", () -> {
      FloorType x = new FloorType();
      Checks.read(x, DEAREST);
      for (int call = 48; call < 512; call++) {
        int k = call % 6 - 1;
        Checks.due("ORDER", x.order(k), k < 0 ? 3600 : k);
      }
    });
  }
}
