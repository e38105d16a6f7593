/** Each promise of the document by itself: ordinary inputs, edges, wrong inputs. */
public final class PromiseTest {
  private static final int UNKNOWN = -1, OUTSIDE = -2, STATE = -3, FULL = -4, NONE = -9;
  private static final int NULL = -11, CAST = -12, INDEX = -13, SIZE = -14;
  private static final long LOST = Long.MIN_VALUE;
  private static final int LOW = Integer.MIN_VALUE, HIGH = Integer.MAX_VALUE;
  /** Five SORTS: p 5 letters, s 1, d 2, p 4, p 3; signs {0 1}, {0 2}, {3 4}. */
  private static final String FIVE = "t;p521;s110;d232;p442;p333/03/05/24";
  private static int answered = 0;

  public static void main(String[] args) {
    for (int promise = 1; promise <= 28; promise++) {
      int before = Checks.wrongSoFar();
      look(promise);
      System.out.println("promise " + promise + (Checks.wrongSoFar() == before ? ": holds" : ": BROKEN"));
    }
    Checks.end("PromiseTest");
  }

  private static void due(String what, long got, long want) {
    answered++;
    Checks.due(answered + " " + what, got, want);
  }

  private static void look(int promise) {
    switch (promise) {
      case 1 -> newObject();
      case 2 -> { floorTexts(); floorFaults(); floorAnew(); }
      case 3 -> ofSort();
      case 4 -> ofSign();
      case 5 -> lay();
      case 6 -> sign();
      case 7 -> { plans(); plansRefused(); }
      case 8 -> lines();
      case 9 -> soon();
      case 10 -> orders();
      case 11 -> trees();
      case 12 -> odds();
      case 13 -> readings();
      case 14 -> back();
      case 15 -> counts();
      case 16 -> kinds();
      case 17 -> speeds();
      case 18 -> sheets();
      case 19 -> lose();
      case 20 -> put();
      case 21 -> cell();
      case 22 -> copy();
      case 23 -> tell();
      case 24 -> drop();
      case 25 -> as();
      case 26 -> trace();
      case 27 -> fault();
      default -> many();
    }
  }

  // ---- 1 a new object

  private static void newObject() {
    FloorType x = new FloorType();
    for (int what = 0; what < 4; what++) {
      due("many", x.many(what), 0);
    }
    due("trace", x.trace(), 0);
    due("fault", x.fault(), 0);
    for (int k = 0; k < 4; k++) {
      for (int lane = 0; lane < 3; lane++) {
        due("cell of nothing", x.cell(k, 0, lane), LOST);
        due("its fault", x.fault(), 1);
      }
      due("lose nothing", x.lose(k), 0);
    }
    due("ofSort", x.ofSort(0, 0), UNKNOWN);
    due("ofSort", x.ofSort(0, 9), UNKNOWN);
    due("ofSign", x.ofSign(0), UNKNOWN);
    due("order", x.order(-1), STATE);
    due("tree", x.tree(1), STATE);
    due("odds", x.odds(0, 0, 0), LOST);
    due("counts", x.counts(0), UNKNOWN);
    due("back", x.back(0), 0);
    due("tell", x.tell(0), UNKNOWN);
  }

  // ---- 2 floor

  private static int textOf(String text) {
    return Checks.read(new FloorType(), text);
  }

  private static void floorTexts() {
    due("two sorts", textOf("t;p110;p110/00"), 2);
    due("six sorts", textOf("t;p110;p110;s095;d110;p990;p110/00/63/59/60/09"), 6);
    due("empty", textOf(""), -100);
    due("not t", textOf("u"), -100);
    due("t alone", textOf("t"), -101);
    due("sign ahead of sorts", textOf("t/01"), -101);
    due("no kind", textOf("t;"), -102);
    due("wrong kind", textOf("t;q"), -102);
    due("wrong kind", textOf("t;P"), -102);
    due("no count", textOf("t;p"), -103);
    due("wrong count", textOf("t;p/"), -103);
    due("wrong count", textOf("t;p:"), -103);
    due("no seconds", textOf("t;p0"), -104);
    due("seconds 0", textOf("t;p00"), -104);
    due("seconds :", textOf("t;p9:"), -104);
    due("no alike", textOf("t;p09"), -105);
    due("alike 6", textOf("t;p096"), -105);
    due("alike /", textOf("t;p09/"), -105);
    due("one sort", textOf("t;p095"), -106);
    due("one sort, a sign", textOf("t;p095/01"), -106);
    due("two sorts, no sign", textOf("t;p095;s110"), -111);
    due("two sorts, more", textOf("t;p095;s110t"), -111);
    due("no digit", textOf("t;p095;s110/"), -112);
    due("first digit 7", textOf("t;p095;s110/70"), -112);
    due("first digit /", textOf("t;p095;s110//"), -112);
    due("second digit missing", textOf("t;p095;s110/6"), -113);
    due("second digit beyond 63", textOf("t;p095;s110/64"), -113);
    due("second digit :", textOf("t;p095;s110/5:"), -113);
    due("second digit /", textOf("t;p095;s110/5/"), -113);
    due("more behind", textOf("t;p095;s110/01 "), -114);
    due("a sort behind a sign", textOf("t;p095;s110/01;p110"), -114);
    due("seventh sort", textOf("t;p110;p110;p110;p110;p110;p110;p110/01"), -131);
    due("six sorts, no sign", textOf("t;p110;p110;p110;p110;p110;p110"), -131);
    due("sixth sign", textOf("t;p110;p110/00/01/02/03/04/05"), -126);
    due("five signs, more", textOf("t;p110;p110/00/01/02/03/04t"), -126);
  }

  private static void floorFaults() {
    FloorType x = new FloorType();
    due("sheet", x.floor(4, 3, 0, 0), UNKNOWN);
    due("sheet", x.floor(-1, 0, 0, 0), UNKNOWN);
    due("lane", x.floor(0, 3, 0, 0), OUTSIDE);
    due("lane", x.floor(0, -1, -1, -1), OUTSIDE);
    due("no fault", x.fault(), 0);
    due("null ahead of size", x.floor(0, 0, -1, -1), NULL);
    due("fault", x.fault(), 1);
    String text = "t;p110;p110/01";
    Checks.row(x, 1, text.chars().toArray());
    due("cast ahead of size", x.floor(1, 1, -1, -1), CAST);
    due("fault", x.fault(), 2);
    due("size ahead of index", x.floor(1, 2, -1, -1), SIZE);
    due("fault", x.fault(), 4);
    due("size", x.floor(1, 2, 0, LOW), SIZE);
    due("index below", x.floor(1, 2, -1, 0), INDEX);
    due("index behind", x.floor(1, 2, 15, 0), INDEX);
    due("index at the end", x.floor(1, 2, 14, 0), -100);
    due("fault of a text's fault", x.fault(), 0);
    due("too many", x.floor(1, 2, 1, 14), INDEX);
    due("far too many", x.floor(1, 2, 1, HIGH), INDEX);
    due("far off", x.floor(1, 2, HIGH, HIGH), INDEX);
    due("no floor yet", x.many(0), 0);
    due("taken", x.floor(1, 2, 0, 14), 2);
    due("fault", x.fault(), 0);
    due("too short", x.floor(1, 2, 0, 13), -113);
  }

  private static void floorAnew() {
    FloorType x = Checks.floorOf(FIVE);
    x.reading(1, 7);
    x.tell(0);
    due("a wrong text", Checks.read(x, "t;s110;p227/01"), -110);
    due("sorts stay", x.many(0), 5);
    due("readings stay", x.many(3), 1);
    due("count stays", x.ofSort(0, 1), 5);
    due("from the middle", read(x, "xxt;s114;p225/62yy", 2, 14), 2);
    due("sorts", x.many(0), 2);
    due("signs", x.many(1), 1);
    due("readings", x.many(3), 0);
    due("trace stays", x.trace(), 1);
    due("sheet stays", x.cell(0, 0, 2), 'x');
    due("kind", x.ofSort(0, 0), 1);
    due("alike none", x.ofSort(0, 3), 4);
    due("sign of sorts that there are", x.ofSign(0), 2);
    due("wrong place counts from the text on", read(x, "xxt;s114;p225/64", 2, 14), -113);
  }

  private static int read(FloorType x, String cells, int i, int n) {
    Checks.row(x, 0, cells.chars().toArray());
    return x.floor(0, 2, i, n);
  }

  // ---- 3 to 6

  private static void ofSort() {
    FloorType x = Checks.floorOf(FIVE);
    int[][] want = {{0, 5, 2, 1, 2}, {1, 1, 1, 0, 2}, {2, 2, 3, 2, 8}, {0, 4, 4, 2, 4}, {0, 3, 3, 3, 3}};
    for (int s = 0; s < 5; s++) {
      for (int what = 0; what < 5; what++) {
        due("ofSort " + s + " " + what, x.ofSort(s, what), want[s][what]);
      }
      due("what", x.ofSort(s, 5), OUTSIDE);
      due("what", x.ofSort(s, -1), OUTSIDE);
    }
    due("sort", x.ofSort(5, 5), UNKNOWN);
    due("sort", x.ofSort(-1, 0), UNKNOWN);
    due("sort", x.ofSort(HIGH, 0), UNKNOWN);
    due("look of 9", Checks.floorOf("t;d990;s990/01").ofSort(0, 4), 20);
    due("look of 9", Checks.floorOf("t;d990;s990/01").ofSort(1, 4), 10);
  }

  private static void ofSign() {
    FloorType x = Checks.floorOf("t;p110;p110;p110/63/08/15/05");
    int[] want = {7, 0, 7, 5};
    for (int k = 0; k < 4; k++) {
      due("ofSign", x.ofSign(k), want[k]);
    }
    due("sign", x.ofSign(4), UNKNOWN);
    due("sign", x.ofSign(-1), UNKNOWN);
  }

  private static void lay() {
    FloorType x = Checks.floorOf(FIVE);
    due("was", x.lay(0, 9), 5);
    due("was", x.lay(0, 0), 9);
    due("is", x.ofSort(0, 1), 0);
    due("was", x.lay(0, 3), 0);
    due("outside", x.lay(0, 10), OUTSIDE);
    due("outside", x.lay(0, -1), OUTSIDE);
    due("unknown", x.lay(5, 10), UNKNOWN);
    due("unknown", x.lay(-1, 1), UNKNOWN);
    due("stays", x.ofSort(0, 1), 3);
    due("no floor", new FloorType().lay(0, 0), UNKNOWN);
  }

  private static void sign() {
    FloorType x = Checks.floorOf(FIVE);
    due("told", x.sign(0, 63), 3);
    due("of those that there are", x.ofSign(0), 31);
    due("told", x.sign(0, 32), 31);
    due("told", x.sign(0, 0), 0);
    due("outside", x.sign(0, 64), OUTSIDE);
    due("outside", x.sign(0, -1), OUTSIDE);
    due("unknown", x.sign(3, 64), UNKNOWN);
    due("unknown", x.sign(-1, 0), UNKNOWN);
    due("stays", x.ofSign(0), 0);
    due("others stay", x.ofSign(1), 5);
  }

  // ---- 7 to 9

  private static void plans() {
    FloorType x = Checks.floorOf(FIVE);
    Checks.row(x, 1, 0, 1, 2, 0, 1, 1, 2, 2);
    plan(x, 0, 0, 0, NONE, 1, 0);
    plan(x, 0, 1, 53, NONE, 2, 0);
    plan(x, 0, 2, 106, NONE, 4, 7);
    // 3 and 4 are parted by no SIGN; 16 + 9 are left to look at
    plan(x, 0, 3, 106 + 25, 2, 4, 7);
    plan(x, 3, 3, 106 + 25, 2, 4, 7);
    due("0 ready", x.plan(1, 2, 0, 2, 10), 106);
    due("3 not ready", x.plan(1, 2, 0, 8, 13), NONE);
    due("no sort", x.plan(1, 2, 0, 8, 15), NONE);
    due("least beside 4", x.plan(1, 2, 0, 1, 24), 2);
    due("least beside 1", x.plan(1, 2, 0, 1, 21), 0);
    due("least beside 4", x.plan(1, 2, 0, 2, 24), 3);
    due("least beside none", x.plan(1, 2, 0, 2, 25), NONE);
    due("least beside 0", x.plan(1, 2, 0, 2, 20), 0);
    due("0 not ready by a shorter plan", x.plan(1, 2, 0, 1, 10), NONE);
    x.sign(2, 8);
    plan(x, 0, 3, 106 + 25, NONE, 5, 31);
    due("3 ready", x.plan(1, 2, 0, 3, 13), 131);
    due("0 ready ahead", x.plan(1, 2, 0, 3, 10), 106);
    // when all are READY a PASS takes nothing and parts nothing
    plan(x, 0, 5, 131, 3, 5, 31);
    x.lay(3, 0);
    due("a sort of 0 letters lies there", x.plan(1, 2, 0, 3, 0), 37 + 37 + 9);
    x.lay(4, 0);
    due("0 letters are ready, too", x.plan(1, 2, 0, 3, 13), 2 * 28);
    x.sign(0, 32);
    due("the first pass is idle", x.plan(1, 2, 0, 2, 1), 0);
  }

  private static void plan(FloorType x, int i, int n, int seconds, int idle, int heaps, int ready) {
    due("plan " + i + " " + n + " seconds", x.plan(1, 2, i, n, 0), seconds);
    due("plan " + i + " " + n + " idle", x.plan(1, 2, i, n, 1), idle);
    due("plan " + i + " " + n + " heaps", x.plan(1, 2, i, n, 2), heaps);
    due("plan " + i + " " + n + " ready", x.plan(1, 2, i, n, 3), ready);
  }

  private static void plansRefused() {
    FloorType x = new FloorType();
    due("unknown first", x.plan(4, 3, 0, 21, 4), UNKNOWN);
    due("lane ahead of state", x.plan(0, 3, 0, 0, 0), OUTSIDE);
    due("n ahead of state", x.plan(0, 0, 0, 21, 0), OUTSIDE);
    due("what ahead of state", x.plan(0, 0, 0, 0, 4), OUTSIDE);
    due("state ahead of null", x.plan(0, 0, 0, 0, 0), STATE);
    x = Checks.floorOf(FIVE);
    int[] wrong = {LOW, -1, 4, 9, 16, 19, 26, HIGH};
    for (int what : wrong) {
      due("what " + what, x.plan(1, 2, 0, 0, what), OUTSIDE);
      due("sheet ahead of what " + what, x.plan(-1, 2, 0, 0, what), UNKNOWN);
    }
    due("n", x.plan(1, 2, 0, -1, 0), OUTSIDE);
    due("n", x.plan(1, 2, 0, 21, 0), OUTSIDE);
    due("null", x.plan(1, 2, -1, 1, 0), NULL);
    Checks.row(x, 1, 0, 1, 2, 3, -1);
    due("cast", x.plan(1, 1, -1, 1, 0), CAST);
    due("index", x.plan(1, 2, -1, 1, 0), INDEX);
    due("index ahead of a cell", x.plan(1, 2, 3, 3, 0), INDEX);
    due("index of none", x.plan(1, 2, 6, 0, 0), INDEX);
    due("none at the end", x.plan(1, 2, 5, 0, 0), 0);
    due("no sign", x.plan(1, 2, 2, 2, 15), UNKNOWN);
    due("fault of a refusal", x.fault(), 0);
    due("no sign", x.plan(1, 2, 4, 1, 0), UNKNOWN);
    x.sheet(2, 0, 20);
    due("twenty passes", x.plan(2, 0, 0, 20, 0), 53 + 19 * 53);
    due("first idle of twenty", x.plan(2, 0, 0, 20, 1), 1);
  }

  private static void lines() {
    FloorType x = new FloorType();
    due("sheet", x.line(-1, 3, 0, 61), UNKNOWN);
    due("lane", x.line(0, 3, 0, 0), OUTSIDE);
    due("n", x.line(0, 0, 0, 61), OUTSIDE);
    due("n", x.line(0, 0, 0, -1), OUTSIDE);
    due("state", x.line(0, 0, 0, 0), STATE);
    x = Checks.floorOf(FIVE);
    due("null", x.line(1, 2, 0, 0), NULL);
    Checks.row(x, 1, 4, 1, 4, 2, 4, 2, 4, 1, 5, -1);
    due("cast", x.line(1, 0, -1, 0), CAST);
    due("index", x.line(1, 2, 1, 10), INDEX);
    due("index", x.line(1, 2, 11, 0), INDEX);
    due("none", x.line(1, 2, 10, 0), NONE);
    due("all there", x.line(1, 2, 0, 6), NONE);
    due("the fourth 4", x.line(1, 2, 0, 8), 6);
    due("counted from the line's begin", x.line(1, 2, 1, 7), 6);
    due("no sort", x.line(1, 2, 0, 9), UNKNOWN);
    due("no sort", x.line(1, 2, 9, 1), UNKNOWN);
    x.lay(2, 0);
    due("none of it", x.line(1, 2, 1, 4), 2);
    due("the first letter is short", x.line(1, 2, 3, 3), 0);
    x.sheet(2, 1, 60);
    due("sixty letters", x.line(2, 1, 0, 60), 5);
  }

  private static void soon() {
    FloorType x = new FloorType();
    due("sheet", x.soon(64, 4, 0, 0, 0), UNKNOWN);
    due("lane", x.soon(64, 0, 3, 0, 0), OUTSIDE);
    due("n", x.soon(0, 0, 0, 0, 21), OUTSIDE);
    due("n", x.soon(0, 0, 0, 0, -1), OUTSIDE);
    due("state ahead of set", x.soon(64, 0, 0, 0, 0), STATE);
    x = Checks.floorOf(FIVE);
    due("set ahead of null", x.soon(32, 1, 2, 0, 0), OUTSIDE);
    due("set", x.soon(-1, 1, 2, 0, 0), OUTSIDE);
    due("null", x.soon(0, 1, 2, -1, 0), NULL);
    Checks.row(x, 1, 1, 2, 0, 3);
    due("cast", x.soon(0, 1, 1, -1, 0), CAST);
    due("index", x.soon(0, 1, 2, 5, 0), INDEX);
    due("no sign", x.soon(0, 1, 2, 3, 1), UNKNOWN);
    due("none", x.soon(0, 1, 2, 0, 3), 0);
    // {0 2} {1 3 4}; {0 2} {1} {3 4}; {0} {2} {1} {3 4}
    due("0", x.soon(1, 1, 2, 0, 3), 157);
    due("0 by a shorter plan", x.soon(1, 1, 2, 0, 2), NONE);
    due("1", x.soon(2, 1, 2, 0, 3), 106);
    due("0 and 2", x.soon(5, 1, 2, 0, 3), 106 + 51);
    due("0, 1, 2", x.soon(7, 1, 2, 0, 3), 157);
    due("all", x.soon(31, 1, 2, 0, 3), NONE);
    due("3", x.soon(8, 1, 2, 0, 3), NONE);
  }

  // ---- 10, 11

  private static void orders() {
    FloorType x = new FloorType();
    due("k ahead of state", x.order(5), OUTSIDE);
    due("state", x.order(-1), STATE);
    x = Checks.floorOf(FIVE);
    for (int k = -1; k < 5; k++) {
      due("no order", x.order(k), NONE);
    }
    due("k", x.order(-2), OUTSIDE);
    due("k", x.order(HIGH), OUTSIDE);
    x.sign(2, 8);
    // 2 0 1 and 2 1 0 take as long, 127 = 53 + 37 + 37; 0 1 2 takes 53 + 53 + 28
    row(x, 127, 2, 0, 1);
    FloorType y = Checks.floorOf("t;p110;p110/00/01");
    row(y, 2, 1);
    // nothing to look at: an idle sign costs nothing, and 0 1 comes ahead of 1
    y.lay(0, 0);
    y.lay(1, 0);
    row(y, 0, 0, 1);
    FloorType z = Checks.floorOf("t;p010;p010;p010/02/00/01/03");
    // 0 1 2 ahead of 0 2: each is worth as much
    row(z, 0, 0, 1, 2);
    z.lay(2, 1);
    // 3 lets 2 lie alone at once; all that follows costs nothing
    row(z, 1, 3, 0);
    z.lay(0, 1);
    // 2 0 takes as long as 3 0 (and an idle 1 between them would take more)
    row(z, 2 + 1, 2, 0);
    z = Checks.floorOf("t;p010;p010;p010/01/02/00/03");
    row(z, 0, 0, 1);
  }

  private static void row(FloorType x, int seconds, int... signs) {
    due("order's seconds", x.order(-1), seconds);
    for (int k = 0; k < 5; k++) {
      due("order's sign " + k, x.order(k), k < signs.length ? signs[k] : NONE);
    }
  }

  private static void trees() {
    FloorType x = new FloorType();
    due("what ahead of state", x.tree(2), OUTSIDE);
    due("state", x.tree(0), STATE);
    x = Checks.floorOf(FIVE);
    due("no tree", x.tree(0), NONE);
    due("no first", x.tree(1), NONE);
    due("what", x.tree(-1), OUTSIDE);
    x.sign(2, 8);
    due("tree", x.tree(0), 117);
    due("first", x.tree(1), 1);
    // heaps may choose unlike signs: {0 1} by 1, {2 3} by 2
    FloorType y = Checks.floorOf("t;p110;p110;p110;p110/03/01/04");
    due("tree", y.tree(0), 8);
    due("first", y.tree(1), 0);
    due("order", y.order(-1), 4 + 3 + 2);
    // a sign that parts nothing is no choice, be it for nothing
    FloorType z = Checks.floorOf("t;p010;p010/00/03/02/01");
    due("tree", z.tree(0), 0);
    due("first", z.tree(1), 2);
  }

  // ---- 12

  private static void odds() {
    FloorType x = Checks.floorOf(FIVE);
    share(x, 1, 0, 1, 1);
    share(x, 1, 1, 31, 32);
    share(x, 1, 2, 13, 16);
    share(x, 1, 3, 1, 2);
    share(x, 1, 5, 1, 32);
    share(x, 1, 6, 0, 1);
    share(x, 1, 99, 0, 1);
    // 4 letters of sort 3; the DOUBTFUL 2 is alike itself
    share(x, 2, 4, 1, 16);
    share(x, 2, 2, 11, 16);
    // the SURE 1 is alike 0, and goes where it belongs
    share(x, 0, 1, 0, 1);
    share(x, 3, 1, 7, 8);
    share(x, 4, 1, 0, 1);
    // PICKINGS alike themselves look like none
    share(Checks.floorOf("t;p910;p911/01"), 0, 1, 0, 1);
    share(Checks.floorOf("t;p910;p911/01"), 1, 1, 0, 1);
    x.lay(0, 1);
    share(x, 1, 1, 1, 2);
    x.lay(0, 0);
    share(x, 1, 0, 1, 1);
    share(x, 1, 1, 0, 1);
    due("sort", x.odds(5, 0, 0), LOST);
    due("sort", x.odds(-1, 0, 0), LOST);
    due("v", x.odds(0, -1, 0), LOST);
    due("v", x.odds(0, 100, 0), LOST);
    due("which", x.odds(0, 0, 2), LOST);
    due("which", x.odds(0, 0, -1), LOST);
    FloorType y = Checks.floorOf("t;p115;p915;p915;p915;p915;p915/00");
    y.lay(0, 9);
    share(y, 5, 45, 1, 1L << 45);
    share(y, 5, 23, 1, 2);
    share(y, 5, 1, (1L << 45) - 1, 1L << 45);
    share(y, 5, 46, 0, 1);
  }

  private static void share(FloorType x, int s, int v, long upper, long lower) {
    due("upper of " + s + " " + v, x.odds(s, v, 0), upper);
    due("lower of " + s + " " + v, x.odds(s, v, 1), lower);
  }

  // ---- 13 to 17

  private static void readings() {
    FloorType x = new FloorType();
    due("state ahead of outside", x.reading(64, -1), STATE);
    x = Checks.floorOf(FIVE);
    due("set", x.reading(32, 0), OUTSIDE);
    due("set", x.reading(-1, 0), OUTSIDE);
    due("v", x.reading(0, -1), OUTSIDE);
    due("v", x.reading(0, 10000), OUTSIDE);
    for (int r = 0; r < 8; r++) {
      due("number", x.reading(r * 4, r == 0 ? 9999 : 0), r);
    }
    due("outside ahead of full", x.reading(32, 0), OUTSIDE);
    due("full", x.reading(0, 0), FULL);
    due("eight", x.many(3), 8);
  }

  private static void back() {
    FloorType x = new FloorType();
    due("none", x.back(0), 0);
    due("outside", x.back(1), OUTSIDE);
    x = Checks.floorOf(FIVE);
    x.reading(1, 10);
    x.reading(1, 11);
    x.reading(1, 12);
    due("contradictions", x.counts(0), 0);
    due("outside", x.back(4), OUTSIDE);
    due("outside", x.back(-1), OUTSIDE);
    due("none", x.back(0), 3);
    due("the last two", x.back(2), 1);
    due("the first is left", x.counts(0), 1 << 5);
    due("goes on behind", x.reading(0, 0), 1);
    due("all", x.back(2), 0);
    due("all free", x.counts(0), 1023);
  }

  private static void counts() {
    FloorType x = Checks.floorOf(FIVE);
    due("no readings", x.counts(0), 1023);
    x.reading(3, 2 + 9 * 2);
    due("nine", x.counts(0), 1 << 9);
    due("what it is", x.ofSort(0, 1), 5);
    due("1 by 0: 10 + 2 c = 20", x.counts(1), 1 << 5);
    due("another sort, reading not so", x.counts(2), 0);
    x.lay(0, 9);
    due("another sort, reading so", x.counts(2), 1023);
    x.back(1);
    x.reading(1, 20);
    due("beyond nine", x.counts(0), 0);
    x.back(1);
    x.reading(8, 0);
    due("zero", x.counts(3), 1);
    due("unknown", x.counts(5), UNKNOWN);
    due("unknown", x.counts(-1), UNKNOWN);
  }

  private static void kinds() {
    FloorType x = Checks.floorOf(FIVE);
    due("no readings", x.kinds(0), 7);
    x.reading(1, 10);
    due("picking", x.kinds(0), 1);
    x.back(1);
    x.reading(1, 15);
    due("sure", x.kinds(0), 2);
    x.back(1);
    x.reading(1, 30);
    due("doubtful", x.kinds(0), 4);
    due("as it is told", x.ofSort(0, 0), 0);
    due("another", x.kinds(1), 0);
    x.lay(0, 0);
    x.back(1);
    x.reading(1, 0);
    due("no letters, any kind", x.kinds(0), 7);
    due("unknown", x.kinds(5), UNKNOWN);
    due("unknown", x.kinds(-1), UNKNOWN);
  }

  private static void speeds() {
    FloorType x = Checks.floorOf(FIVE);
    due("no readings", x.speeds(2), 1022);
    x.reading(4, 2 * 2 * 10);
    due("nine", x.speeds(2), 1 << 9);
    x.back(1);
    x.reading(4, 8);
    due("one", x.speeds(2), 2);
    x.reading(6, 10);
    due("two readings", x.speeds(2), 2);
    x.reading(6, 11);
    due("third is not so", x.speeds(2), 0);
    x.back(3);
    x.reading(4, 4);
    due("0 seconds are none", x.speeds(2), 0);
    due("unknown", x.speeds(5), UNKNOWN);
    due("unknown", x.speeds(-1), UNKNOWN);
  }

  // ---- 18 to 22

  private static void sheets() {
    FloorType x = new FloorType();
    due("new", x.sheet(3, 2, 60), 1);
    due("last", x.cell(3, 59, 2), 0);
    due("behind", x.put(3, 60, 1), INDEX);
    x.put(3, 0, 7);
    due("anew", x.sheet(3, 0, 1), 1);
    due("zeros", x.cell(3, 0, 0), 0);
    due("unknown", x.sheet(4, 3, 61), UNKNOWN);
    due("unknown", x.sheet(-1, 0, -1), UNKNOWN);
    due("lane ahead of size", x.sheet(0, 3, -1), OUTSIDE);
    due("lane", x.sheet(0, -1, 0), OUTSIDE);
    due("n", x.sheet(0, 0, 61), OUTSIDE);
    due("size", x.sheet(0, 0, -1), SIZE);
    due("fault", x.fault(), 4);
    due("size", x.sheet(0, 2, LOW), SIZE);
    due("still nothing", x.lose(0), 0);
    x.put(3, 0, 9);
    x.sheet(3, 0, -5);
    due("row stays", x.cell(3, 0, 0), 9);
    due("empty row", x.sheet(0, 1, 0), 1);
    due("fault", x.fault(), 0);
    due("is something", x.lose(0), 1);
  }

  private static void lose() {
    FloorType x = new FloorType();
    x.sheet(0, 0, 5);
    due("had", x.lose(0), 1);
    due("had nothing", x.lose(0), 0);
    due("nothing", x.put(0, 0, 0), NULL);
    due("lose names no faults", x.lose(0), 0);
    due("fault", x.fault(), 1);
    due("unknown", x.lose(4), UNKNOWN);
    due("unknown", x.lose(-1), UNKNOWN);
  }

  private static void put() {
    FloorType x = new FloorType();
    due("unknown", x.put(4, 0, 0), UNKNOWN);
    due("unknown", x.put(-1, 0, 0), UNKNOWN);
    due("null ahead of index", x.put(0, -1, 0), NULL);
    for (int lane = 0; lane < 3; lane++) {
      x.sheet(lane, lane, 2);
      due("index", x.put(lane, -1, 0), INDEX);
      due("index", x.put(lane, 2, 0), INDEX);
      due("index", x.put(lane, LOW, 0), INDEX);
    }
    int[] values = {0, -1, 127, 128, 255, 256, -129, 32767, 32768, 65536, 70000, LOW, HIGH};
    for (int v : values) {
      for (int lane = 0; lane < 3; lane++) {
        due("put", x.put(lane, 1, v), 1);
        due("cut", x.cell(lane, 1, lane), lane == 0 ? (byte) v : lane == 1 ? (short) v : v);
        due("beside", x.cell(lane, 0, lane), 0);
      }
    }
  }

  private static void cell() {
    FloorType x = new FloorType();
    Checks.row(x, 2, 5, -6, 7);
    due("cell", x.cell(2, 1, 2), -6);
    due("fault", x.fault(), 0);
    due("cast ahead of index", x.cell(2, -1, 0), LOST);
    due("fault", x.fault(), 2);
    due("index", x.cell(2, 3, 2), LOST);
    due("fault", x.fault(), 3);
    due("index", x.cell(2, -1, 2), LOST);
    due("fault", x.fault(), 3);
    due("lane", x.cell(2, 0, 3), LOST);
    due("fault", x.fault(), 0);
    due("null", x.cell(1, -1, 0), LOST);
    due("fault", x.fault(), 1);
    due("unknown", x.cell(4, 0, 0), LOST);
    due("fault", x.fault(), 0);
    due("unknown", x.cell(-1, 0, 0), LOST);
    due("lane ahead of null", x.cell(1, 0, -1), LOST);
    due("fault", x.fault(), 0);
  }

  private static void copy() {
    FloorType x = new FloorType();
    due("unknown", x.copy(4, 0, 0, 0, 0), UNKNOWN);
    due("unknown", x.copy(0, 0, -1, 0, 0), UNKNOWN);
    due("null", x.copy(0, 0, 1, 0, 0), NULL);
    Checks.row(x, 0, 1, 2, 3, 4, 5);
    due("null, the other", x.copy(0, -1, 1, 0, 0), NULL);
    due("null, the first", x.copy(1, -1, 0, 0, 0), NULL);
    x.sheet(1, 1, 3);
    due("cast", x.copy(0, -1, 1, 0, 0), CAST);
    x.sheet(1, 2, 3);
    int[][] beyond = {{-1, 0, 1}, {0, -1, 1}, {0, 0, -1}, {0, 0, 4}, {3, 0, 3}, {0, 1, 3}, {6, 0, 0},
        {0, 4, 0}, {0, 0, HIGH}, {HIGH, 0, HIGH}, {0, HIGH, 1}, {-1, 0, 0}, {0, LOW, LOW}};
    for (int[] b : beyond) {
      due("index " + b[0] + " " + b[1] + " " + b[2], x.copy(0, b[0], 1, b[1], b[2]), INDEX);
      due("fault", x.fault(), 3);
    }
    due("untouched", x.cell(1, 0, 2), 0);
    due("none at the ends", x.copy(0, 5, 1, 3, 0), 0);
    due("copy", x.copy(0, 3, 1, 1, 2), 2);
    cells(x, 1, 0, 4, 5);
    due("upwards in itself", x.copy(0, 0, 0, 1, 4), 4);
    cells(x, 0, 1, 1, 2, 3, 4);
    due("downwards in itself", x.copy(0, 2, 0, 0, 3), 3);
    cells(x, 0, 2, 3, 4, 3, 4);
    due("fault", x.fault(), 0);
  }

  private static void cells(FloorType x, int sheet, int... cells) {
    for (int i = 0; i < cells.length; i++) {
      due("cell " + i, x.cell(sheet, i, 2), cells[i]);
    }
  }

  // ---- 23 to 28

  private static void tell() {
    FloorType x = Checks.floorOf(FIVE);
    due("picking", x.tell(0), 2);
    due("trace", x.trace(), 1);
    due("sure", x.tell(1), 101);
    due("trace", x.trace(), (31 + 2) * 31 + 1);
    due("doubtful", x.tell(2), 106);
    due("unknown", x.tell(5), UNKNOWN);
    due("unknown", x.tell(-1), UNKNOWN);
    FloorType y = Checks.floorOf(FIVE);
    y.tell(2);
    due("trace", y.trace(), ((3 * 31 + 2) * 31 + 1) * 31 + 1);
  }

  private static void drop() {
    FloorType x = Checks.floorOf(FIVE);
    due("picking", x.drop(3), 3);
    due("trace", x.trace(), 4);
    due("sure", x.drop(1), 1);
    due("trace", x.trace(), 4 * 31 + 4);
    due("doubtful", x.drop(2), 70);
    due("trace", x.trace(), (4 * 31 + 4) * 31 + 5);
    due("unknown", x.drop(5), UNKNOWN);
    due("unknown", x.drop(-1), UNKNOWN);
    due("trace stays", x.trace(), (4 * 31 + 4) * 31 + 5);
  }

  private static void as() {
    FloorType x = Checks.floorOf(FIVE);
    int[][] want = {{1, CAST, CAST}, {1, 1, CAST}, {1, 1, 1}};
    for (int s = 0; s < 3; s++) {
      for (int kind = 0; kind < 3; kind++) {
        due("as " + s + " " + kind, x.as(s, kind), want[s][kind]);
        due("fault", x.fault(), want[s][kind] == CAST ? 2 : 0);
      }
      due("outside", x.as(s, 3), OUTSIDE);
      due("outside", x.as(s, -1), OUTSIDE);
    }
    due("unknown", x.as(5, 3), UNKNOWN);
    due("unknown", x.as(-1, 0), UNKNOWN);
    due("no floor", new FloorType().as(0, 0), UNKNOWN);
  }

  private static void trace() {
    FloorType x = Checks.floorOf(FIVE);
    int want = 0;
    for (int call = 0; call < 40; call++) {
      x.tell(1);
      want = (31 * want + 2) * 31 + 1;
      due("wraps", x.trace(), want);
    }
    Checks.read(x, FIVE);
    due("a text leaves it", x.trace(), want);
  }

  private static void fault() {
    FloorType x = Checks.floorOf(FIVE);
    due("none", x.fault(), 0);
    due("cast", x.as(0, 1), CAST);
    // calls that name no FAULTS leave it
    x.ofSort(0, 0);
    x.ofSign(9);
    x.lay(9, 9);
    x.sign(0, 99);
    x.order(9);
    x.tree(9);
    x.odds(9, 9, 9);
    x.reading(99, 9);
    x.back(9);
    x.counts(9);
    x.kinds(9);
    x.speeds(9);
    x.lose(9);
    x.tell(9);
    x.drop(9);
    x.trace();
    x.many(9);
    due("cast still", x.fault(), 2);
    // calls that name them and are refused set it to 0
    for (int call = 0; call < 9; call++) {
      x.as(0, 1);
      due("cast again", x.fault(), 2);
      due("refused " + call, refused(x, call), call == 5 ? LOST : UNKNOWN);
      due("none of " + call, x.fault(), 0);
    }
  }

  private static long refused(FloorType x, int call) {
    switch (call) {
      case 0: return x.floor(9, 0, 0, 0);
      case 1: return x.plan(9, 0, 0, 0, 0);
      case 2: return x.line(9, 0, 0, 0);
      case 3: return x.soon(0, 9, 0, 0, 0);
      case 4: return x.sheet(9, 0, 0);
      case 5: return x.cell(9, 0, 0);
      case 6: return x.put(9, 0, 0);
      case 7: return x.copy(9, 0, 0, 0, 0);
      default: return x.as(9, 0);
    }
  }

  private static void many() {
    FloorType x = new FloorType();
    due("outside without a floor", x.many(4), OUTSIDE);
    x = Checks.floorOf(FIVE);
    due("sorts", x.many(0), 5);
    due("signs", x.many(1), 3);
    due("letters", x.many(2), 15);
    x.lay(1, 9);
    due("letters", x.many(2), 23);
    x.reading(1, 1);
    due("readings", x.many(3), 1);
    due("outside", x.many(4), OUTSIDE);
    due("outside", x.many(-1), OUTSIDE);
  }
}
