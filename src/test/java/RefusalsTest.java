import java.util.List;
import java.util.function.Supplier;
import java.util.function.ToLongFunction;

/** Which refusal or FAULT comes first where two apply, and that it changes nothing but fault(). */
public final class RefusalsTest {
  private static final int UNKNOWN = -1, OUTSIDE = -2, STATE = -3, FULL = -4;
  private static final int NULL = -11, CAST = -12, INDEX = -13, SIZE = -14;
  private static final long LOST = Long.MIN_VALUE;
  private static final int HIGH = Integer.MAX_VALUE;
  /** The FAULT that stands ahead of each call that is looked at. */
  private static final int BEFORE = 3;

  public static void main(String[] args) {
    floors();
    sortsAndSigns();
    plansOutside();
    plansFaults();
    lines();
    soons();
    soonsSets();
    ordersAndTrees();
    odds();
    readings();
    sheets();
    cells();
    copies();
    parts();
    farOff();
    asked();
    Checks.end("RefusalsTest");
  }

  // ---- objects: SHEET 0 of bytes, 1 of shorts, 2 of ints {0 9 -1}, 3 nothing; READINGS are so

  private static FloorType bare() {
    FloorType x = new FloorType();
    lay(x);
    return x;
  }

  private static void lay(FloorType x) {
    Checks.rowOf(x, 0, 0, 1, 0);
    Checks.rowOf(x, 1, 1, 2, 1);
    Checks.rowOf(x, 2, 2, 0, 9, -1);
    x.lose(3);
  }

  private static FloorType some() {
    FloorType x = Checks.floorOf("t;p521;s110;d232;p442;p333/03/05/24");
    lay(x);
    x.lay(4, 9);
    x.sign(2, 8);
    x.drop(2);
    x.reading(3, 12);
    x.reading(4, 16);
    return x;
  }

  private static FloorType full() {
    FloorType x = some();
    for (int r = 2; r < 8; r++) {
      x.reading(1, 10);
    }
    return x;
  }

  // ---- how a call is looked at

  private static void looked(String name, Supplier<FloorType> start, ToLongFunction<FloorType> call,
      long want, int fault) {
    Checks.test(name, () -> {
      FloorType x = start.get();
      List<Long> shown = Shown.of(x);
      Checks.due("a FAULT ahead", x.put(2, -1, 0), -10 - BEFORE);
      Checks.due("the call", call.applyAsLong(x), want);
      Checks.due("fault", x.fault(), fault);
      Checks.holds("nothing is changed", shown.equals(Shown.of(x)));
    });
  }

  /** A call that names FAULTS comes to none: fault() is 0. */
  private static void refused(String name, Supplier<FloorType> start, ToLongFunction<FloorType> call, long want) {
    looked(name, start, call, want, 0);
  }

  private static void faulty(String name, Supplier<FloorType> start, ToLongFunction<FloorType> call, int want) {
    looked(name, start, call, want, -10 - want);
  }

  /** A call that names no FAULTS: fault() is left. */
  private static void silent(String name, Supplier<FloorType> start, ToLongFunction<FloorType> call, long want) {
    looked(name, start, call, want, BEFORE);
  }

  // ---- 2

  private static void floors() {
    for (Supplier<FloorType> start : List.<Supplier<FloorType>>of(RefusalsTest::bare, RefusalsTest::some)) {
      refused("floor: SHEET ahead of all", start, x -> x.floor(4, 3, -1, -1), UNKNOWN);
      refused("floor: SHEET -1 ahead of all", start, x -> x.floor(-1, -1, -1, -1), UNKNOWN);
      refused("floor: greatest SHEET", start, x -> x.floor(HIGH, 0, 0, 0), UNKNOWN);
      refused("floor: LANE 3 ahead of NULL", start, x -> x.floor(3, 3, 0, 0), OUTSIDE);
      refused("floor: LANE -1 ahead of SIZE", start, x -> x.floor(2, -1, 0, -1), OUTSIDE);
      refused("floor: LANE ahead of INDEX", start, x -> x.floor(2, 3, 4, 0), OUTSIDE);
      faulty("floor: NULL ahead of SIZE", start, x -> x.floor(3, 0, 0, -1), NULL);
      faulty("floor: NULL ahead of INDEX", start, x -> x.floor(3, 0, -1, 0), NULL);
      faulty("floor: nothing is no CAST to any LANE", start, x -> x.floor(3, 2, 0, 0), NULL);
      faulty("floor: CAST ahead of SIZE", start, x -> x.floor(2, 1, 0, -1), CAST);
      faulty("floor: CAST ahead of INDEX", start, x -> x.floor(2, 0, -1, 0), CAST);
      faulty("floor: CAST ahead of the FIRST FAULT", start, x -> x.floor(0, 2, 0, 1), CAST);
      faulty("floor: SIZE ahead of INDEX below", start, x -> x.floor(2, 2, -1, -1), SIZE);
      faulty("floor: SIZE ahead of INDEX beyond", start, x -> x.floor(2, 2, 4, -1), SIZE);
      faulty("floor: SIZE", start, x -> x.floor(2, 2, 3, Integer.MIN_VALUE), SIZE);
      faulty("floor: INDEX ahead of the FIRST FAULT", start, x -> x.floor(2, 2, 0, 4), INDEX);
      faulty("floor: INDEX of no cells", start, x -> x.floor(2, 2, 4, 0), INDEX);
      refused("floor: a FIRST FAULT leaves the old FLOOR", start, x -> x.floor(2, 2, 0, 3), -100);
      refused("floor: an empty TEXT leaves the old FLOOR", start, x -> x.floor(2, 2, 3, 0), -100);
    }
  }

  // ---- 3 to 6

  private static void sortsAndSigns() {
    silent("ofSort: SORT ahead of what", RefusalsTest::some, x -> x.ofSort(5, 5), UNKNOWN);
    silent("ofSort: what", RefusalsTest::some, x -> x.ofSort(4, 5), OUTSIDE);
    silent("ofSort: no FLOOR", RefusalsTest::bare, x -> x.ofSort(0, -1), UNKNOWN);
    silent("ofSign: SIGN", RefusalsTest::some, x -> x.ofSign(3), UNKNOWN);
    silent("lay: SORT ahead of v", RefusalsTest::some, x -> x.lay(5, 10), UNKNOWN);
    silent("lay: v 10", RefusalsTest::some, x -> x.lay(0, 10), OUTSIDE);
    silent("lay: v -1", RefusalsTest::some, x -> x.lay(4, -1), OUTSIDE);
    silent("lay: no FLOOR", RefusalsTest::bare, x -> x.lay(0, 10), UNKNOWN);
    silent("sign: SIGN ahead of set", RefusalsTest::some, x -> x.sign(3, 64), UNKNOWN);
    silent("sign: set 64", RefusalsTest::some, x -> x.sign(0, 64), OUTSIDE);
    silent("sign: set -1", RefusalsTest::some, x -> x.sign(2, -1), OUTSIDE);
    silent("sign: no FLOOR", RefusalsTest::bare, x -> x.sign(0, -1), UNKNOWN);
  }

  // ---- 7

  private static void plansOutside() {
    refused("plan: SHEET ahead of LANE", RefusalsTest::some, x -> x.plan(4, 3, 0, 0, 0), UNKNOWN);
    refused("plan: SHEET ahead of n", RefusalsTest::some, x -> x.plan(-1, 0, 0, 21, 0), UNKNOWN);
    refused("plan: SHEET ahead of what", RefusalsTest::some, x -> x.plan(4, 0, 0, 0, 4), UNKNOWN);
    refused("plan: SHEET ahead of STATE", RefusalsTest::bare, x -> x.plan(4, 0, 0, 0, 0), UNKNOWN);
    refused("plan: LANE ahead of STATE", RefusalsTest::bare, x -> x.plan(2, 3, 0, 0, 0), OUTSIDE);
    refused("plan: n 21 ahead of STATE", RefusalsTest::bare, x -> x.plan(2, 2, 0, 21, 0), OUTSIDE);
    refused("plan: n -1 ahead of STATE", RefusalsTest::bare, x -> x.plan(2, 2, 0, -1, 0), OUTSIDE);
    refused("plan: what ahead of STATE", RefusalsTest::bare, x -> x.plan(2, 2, 0, 0, 16), OUTSIDE);
    refused("plan: LANE ahead of NULL", RefusalsTest::some, x -> x.plan(3, -1, 0, 0, 0), OUTSIDE);
    refused("plan: n ahead of NULL", RefusalsTest::some, x -> x.plan(3, 0, 0, 21, 0), OUTSIDE);
    refused("plan: what ahead of NULL", RefusalsTest::some, x -> x.plan(3, 0, 0, 0, 9), OUTSIDE);
    refused("plan: n ahead of CAST", RefusalsTest::some, x -> x.plan(2, 0, 0, -1, 0), OUTSIDE);
    refused("plan: what ahead of CAST", RefusalsTest::some, x -> x.plan(2, 0, 0, 0, 26), OUTSIDE);
    refused("plan: n ahead of INDEX", RefusalsTest::some, x -> x.plan(2, 2, 0, 21, 0), OUTSIDE);
    refused("plan: n below 0 is no INDEX", RefusalsTest::some, x -> x.plan(2, 2, -1, -1, 0), OUTSIDE);
    refused("plan: what ahead of INDEX", RefusalsTest::some, x -> x.plan(2, 2, -1, 1, -1), OUTSIDE);
    refused("plan: what ahead of a cell", RefusalsTest::some, x -> x.plan(2, 2, 1, 1, 19), OUTSIDE);
  }

  private static void plansFaults() {
    refused("plan: STATE ahead of NULL", RefusalsTest::bare, x -> x.plan(3, 0, 0, 0, 0), STATE);
    refused("plan: STATE ahead of CAST", RefusalsTest::bare, x -> x.plan(2, 0, 0, 0, 0), STATE);
    refused("plan: STATE ahead of INDEX", RefusalsTest::bare, x -> x.plan(2, 2, 4, 0, 0), STATE);
    refused("plan: STATE ahead of a cell", RefusalsTest::bare, x -> x.plan(2, 2, 0, 1, 0), STATE);
    faulty("plan: NULL ahead of INDEX", RefusalsTest::some, x -> x.plan(3, 0, -1, 0, 0), NULL);
    faulty("plan: CAST ahead of INDEX", RefusalsTest::some, x -> x.plan(2, 1, 4, 0, 0), CAST);
    faulty("plan: CAST ahead of a cell", RefusalsTest::some, x -> x.plan(2, 1, 1, 1, 0), CAST);
    faulty("plan: INDEX ahead of a cell", RefusalsTest::some, x -> x.plan(2, 2, 0, 4, 0), INDEX);
    faulty("plan: INDEX of no cells", RefusalsTest::some, x -> x.plan(2, 2, 4, 0, 0), INDEX);
    refused("plan: a cell", RefusalsTest::some, x -> x.plan(2, 2, 0, 2, 0), UNKNOWN);
    refused("plan: a cell ahead of a SORT that there is not", RefusalsTest::some,
        x -> x.plan(2, 2, 2, 1, 15), UNKNOWN);
  }

  // ---- 8

  private static void lines() {
    refused("line: SHEET ahead of LANE", RefusalsTest::some, x -> x.line(4, 3, 0, 0), UNKNOWN);
    refused("line: SHEET ahead of n", RefusalsTest::some, x -> x.line(-1, 0, 0, 61), UNKNOWN);
    refused("line: SHEET ahead of STATE", RefusalsTest::bare, x -> x.line(4, 0, 0, 0), UNKNOWN);
    refused("line: LANE ahead of STATE", RefusalsTest::bare, x -> x.line(2, 3, 0, 0), OUTSIDE);
    refused("line: n 61 ahead of STATE", RefusalsTest::bare, x -> x.line(2, 2, 0, 61), OUTSIDE);
    refused("line: n -1 ahead of STATE", RefusalsTest::bare, x -> x.line(2, 2, 0, -1), OUTSIDE);
    refused("line: LANE ahead of NULL", RefusalsTest::some, x -> x.line(3, -1, 0, 0), OUTSIDE);
    refused("line: n ahead of NULL", RefusalsTest::some, x -> x.line(3, 0, 0, 61), OUTSIDE);
    refused("line: n ahead of CAST", RefusalsTest::some, x -> x.line(2, 0, 0, -1), OUTSIDE);
    refused("line: n ahead of INDEX", RefusalsTest::some, x -> x.line(2, 2, 4, 61), OUTSIDE);
    refused("line: STATE ahead of NULL", RefusalsTest::bare, x -> x.line(3, 0, 0, 0), STATE);
    refused("line: STATE ahead of CAST", RefusalsTest::bare, x -> x.line(2, 0, 0, 0), STATE);
    refused("line: STATE ahead of INDEX", RefusalsTest::bare, x -> x.line(2, 2, -1, 0), STATE);
    refused("line: STATE ahead of a cell", RefusalsTest::bare, x -> x.line(2, 2, 1, 1), STATE);
    faulty("line: NULL ahead of INDEX", RefusalsTest::some, x -> x.line(3, 0, -1, 0), NULL);
    faulty("line: CAST ahead of INDEX", RefusalsTest::some, x -> x.line(2, 1, 4, 0), CAST);
    faulty("line: CAST ahead of a cell", RefusalsTest::some, x -> x.line(2, 1, 1, 1), CAST);
    faulty("line: INDEX ahead of a cell", RefusalsTest::some, x -> x.line(2, 2, 1, 3), INDEX);
    faulty("line: INDEX of no cells", RefusalsTest::some, x -> x.line(2, 2, 4, 0), INDEX);
    refused("line: a cell beyond the SORTS", RefusalsTest::some, x -> x.line(2, 2, 0, 2), UNKNOWN);
    refused("line: a cell below 0", RefusalsTest::some, x -> x.line(2, 2, 2, 1), UNKNOWN);
  }

  // ---- 9

  private static void soons() {
    refused("soon: SHEET ahead of LANE", RefusalsTest::some, x -> x.soon(0, 4, 3, 0, 0), UNKNOWN);
    refused("soon: SHEET ahead of n", RefusalsTest::some, x -> x.soon(0, -1, 0, 0, 21), UNKNOWN);
    refused("soon: SHEET ahead of STATE", RefusalsTest::bare, x -> x.soon(0, 4, 0, 0, 0), UNKNOWN);
    refused("soon: SHEET ahead of set", RefusalsTest::some, x -> x.soon(-1, 4, 0, 0, 0), UNKNOWN);
    refused("soon: LANE ahead of STATE", RefusalsTest::bare, x -> x.soon(0, 2, 3, 0, 0), OUTSIDE);
    refused("soon: n 21 ahead of STATE", RefusalsTest::bare, x -> x.soon(0, 2, 2, 0, 21), OUTSIDE);
    refused("soon: n -1 ahead of STATE", RefusalsTest::bare, x -> x.soon(0, 2, 2, 0, -1), OUTSIDE);
    refused("soon: LANE ahead of NULL", RefusalsTest::some, x -> x.soon(0, 3, -1, 0, 0), OUTSIDE);
    refused("soon: n ahead of NULL", RefusalsTest::some, x -> x.soon(0, 3, 0, 0, 21), OUTSIDE);
    refused("soon: n ahead of CAST", RefusalsTest::some, x -> x.soon(0, 2, 0, 0, -1), OUTSIDE);
    refused("soon: n ahead of INDEX", RefusalsTest::some, x -> x.soon(0, 2, 2, 0, 21), OUTSIDE);
    refused("soon: STATE ahead of NULL", RefusalsTest::bare, x -> x.soon(0, 3, 0, 0, 0), STATE);
    refused("soon: STATE ahead of CAST", RefusalsTest::bare, x -> x.soon(0, 2, 0, 0, 0), STATE);
    refused("soon: STATE ahead of INDEX", RefusalsTest::bare, x -> x.soon(0, 2, 2, 4, 0), STATE);
    refused("soon: STATE ahead of a cell", RefusalsTest::bare, x -> x.soon(0, 2, 2, 1, 1), STATE);
    faulty("soon: NULL ahead of INDEX", RefusalsTest::some, x -> x.soon(0, 3, 0, -1, 0), NULL);
    faulty("soon: CAST ahead of INDEX", RefusalsTest::some, x -> x.soon(0, 2, 1, 4, 0), CAST);
    faulty("soon: CAST ahead of a cell", RefusalsTest::some, x -> x.soon(0, 2, 1, 1, 1), CAST);
    faulty("soon: INDEX ahead of a cell", RefusalsTest::some, x -> x.soon(0, 2, 2, 1, 3), INDEX);
    faulty("soon: INDEX of no cells", RefusalsTest::some, x -> x.soon(0, 2, 2, -1, 0), INDEX);
    refused("soon: a cell, also for no SORT", RefusalsTest::some, x -> x.soon(0, 2, 2, 1, 1), UNKNOWN);
  }

  private static void soonsSets() {
    refused("soon: STATE ahead of set", RefusalsTest::bare, x -> x.soon(-1, 2, 2, 0, 0), STATE);
    refused("soon: set ahead of NULL", RefusalsTest::some, x -> x.soon(32, 3, 0, 0, 0), OUTSIDE);
    refused("soon: set ahead of CAST", RefusalsTest::some, x -> x.soon(-1, 2, 0, 0, 0), OUTSIDE);
    refused("soon: set ahead of INDEX", RefusalsTest::some, x -> x.soon(32, 2, 2, 4, 0), OUTSIDE);
    refused("soon: set ahead of a cell", RefusalsTest::some, x -> x.soon(64, 2, 2, 1, 1), OUTSIDE);
  }

  // ---- 10 to 12

  private static void ordersAndTrees() {
    silent("order: k 5 ahead of STATE", RefusalsTest::bare, x -> x.order(5), OUTSIDE);
    silent("order: k -2 ahead of STATE", RefusalsTest::bare, x -> x.order(-2), OUTSIDE);
    silent("order: STATE", RefusalsTest::bare, x -> x.order(4), STATE);
    silent("order: k", RefusalsTest::some, x -> x.order(5), OUTSIDE);
    silent("tree: what 2 ahead of STATE", RefusalsTest::bare, x -> x.tree(2), OUTSIDE);
    silent("tree: what -1 ahead of STATE", RefusalsTest::bare, x -> x.tree(-1), OUTSIDE);
    silent("tree: STATE", RefusalsTest::bare, x -> x.tree(1), STATE);
    silent("tree: what", RefusalsTest::some, x -> x.tree(2), OUTSIDE);
  }

  private static void odds() {
    silent("odds: no FLOOR", RefusalsTest::bare, x -> x.odds(0, 0, 0), LOST);
    silent("odds: SORT", RefusalsTest::some, x -> x.odds(5, 0, 0), LOST);
    silent("odds: v", RefusalsTest::some, x -> x.odds(0, 100, 0), LOST);
    silent("odds: which", RefusalsTest::some, x -> x.odds(0, 0, 2), LOST);
    silent("odds: all of them", RefusalsTest::some, x -> x.odds(-1, -1, -1), LOST);
  }

  // ---- 13 to 17

  private static void readings() {
    silent("reading: STATE ahead of set", RefusalsTest::bare, x -> x.reading(64, 0), STATE);
    silent("reading: STATE ahead of v", RefusalsTest::bare, x -> x.reading(0, 10000), STATE);
    silent("reading: set", RefusalsTest::some, x -> x.reading(32, 0), OUTSIDE);
    silent("reading: v", RefusalsTest::some, x -> x.reading(0, 10000), OUTSIDE);
    silent("reading: set ahead of FULL", RefusalsTest::full, x -> x.reading(32, 0), OUTSIDE);
    silent("reading: v ahead of FULL", RefusalsTest::full, x -> x.reading(0, -1), OUTSIDE);
    silent("reading: FULL", RefusalsTest::full, x -> x.reading(0, 1), FULL);
    silent("back: one more than there are", RefusalsTest::some, x -> x.back(3), OUTSIDE);
    silent("back: below 0", RefusalsTest::some, x -> x.back(-1), OUTSIDE);
    silent("back: nine of eight", RefusalsTest::full, x -> x.back(9), OUTSIDE);
    silent("back: without a FLOOR", RefusalsTest::bare, x -> x.back(1), OUTSIDE);
    silent("counts: SORT", RefusalsTest::some, x -> x.counts(5), UNKNOWN);
    silent("kinds: SORT", RefusalsTest::some, x -> x.kinds(5), UNKNOWN);
    silent("speeds: SORT", RefusalsTest::some, x -> x.speeds(5), UNKNOWN);
  }

  // ---- 18 to 22

  private static void sheets() {
    refused("sheet: SHEET ahead of LANE", RefusalsTest::some, x -> x.sheet(4, 3, 0), UNKNOWN);
    refused("sheet: SHEET ahead of n", RefusalsTest::some, x -> x.sheet(-1, 0, 61), UNKNOWN);
    refused("sheet: SHEET ahead of SIZE", RefusalsTest::some, x -> x.sheet(4, 0, -1), UNKNOWN);
    refused("sheet: LANE ahead of SIZE", RefusalsTest::some, x -> x.sheet(2, 3, -1), OUTSIDE);
    refused("sheet: LANE -1 ahead of SIZE", RefusalsTest::some, x -> x.sheet(2, -1, -1), OUTSIDE);
    refused("sheet: LANE leaves the row", RefusalsTest::some, x -> x.sheet(2, 3, 5), OUTSIDE);
    refused("sheet: n leaves the row", RefusalsTest::some, x -> x.sheet(2, 2, 61), OUTSIDE);
    faulty("sheet: SIZE leaves the row", RefusalsTest::some, x -> x.sheet(2, 0, -1), SIZE);
    faulty("sheet: SIZE leaves nothing", RefusalsTest::some, x -> x.sheet(3, 0, -1), SIZE);
    silent("lose: SHEET", RefusalsTest::some, x -> x.lose(4), UNKNOWN);
    silent("lose: it had nothing", RefusalsTest::some, x -> x.lose(3), 0);
    refused("put: SHEET ahead of all", RefusalsTest::some, x -> x.put(4, -1, 0), UNKNOWN);
    faulty("put: NULL ahead of INDEX", RefusalsTest::some, x -> x.put(3, -1, 0), NULL);
    faulty("put: INDEX", RefusalsTest::some, x -> x.put(2, 3, 7), INDEX);
    faulty("put: INDEX of another SHEET's cell", RefusalsTest::some, x -> x.put(2, -60, 7), INDEX);
  }

  private static void cells() {
    looked("cell: SHEET ahead of LANE", RefusalsTest::some, x -> x.cell(4, 0, 3), LOST, 0);
    looked("cell: SHEET ahead of INDEX", RefusalsTest::some, x -> x.cell(-1, -1, 0), LOST, 0);
    looked("cell: LANE ahead of NULL", RefusalsTest::some, x -> x.cell(3, 0, 3), LOST, 0);
    looked("cell: LANE ahead of CAST", RefusalsTest::some, x -> x.cell(2, 0, -1), LOST, 0);
    looked("cell: LANE ahead of INDEX", RefusalsTest::some, x -> x.cell(2, 3, 3), LOST, 0);
    looked("cell: CAST ahead of INDEX", RefusalsTest::some, x -> x.cell(2, 3, 1), LOST, 2);
    looked("cell: NULL ahead of INDEX", RefusalsTest::some, x -> x.cell(3, -1, 1), LOST, 1);
    looked("cell: INDEX", RefusalsTest::some, x -> x.cell(2, 3, 2), LOST, 3);
  }

  private static void copies() {
    refused("copy: SHEET ahead of NULL", RefusalsTest::some, x -> x.copy(4, 0, 3, 0, 0), UNKNOWN);
    refused("copy: the other SHEET ahead of NULL", RefusalsTest::some, x -> x.copy(3, 0, 4, 0, 0), UNKNOWN);
    refused("copy: the other SHEET ahead of INDEX", RefusalsTest::some, x -> x.copy(2, -1, -1, 0, -1), UNKNOWN);
    faulty("copy: NULL of the first ahead of INDEX", RefusalsTest::some, x -> x.copy(3, 0, 2, 4, 0), NULL);
    faulty("copy: NULL of the other ahead of INDEX", RefusalsTest::some, x -> x.copy(2, 4, 3, 0, -1), NULL);
    faulty("copy: CAST ahead of INDEX of i", RefusalsTest::some, x -> x.copy(2, -1, 1, 0, 0), CAST);
    faulty("copy: CAST ahead of INDEX of j", RefusalsTest::some, x -> x.copy(0, 0, 1, 3, 0), CAST);
    faulty("copy: CAST ahead of INDEX of n", RefusalsTest::some, x -> x.copy(0, 0, 2, 0, -1), CAST);
    faulty("copy: INDEX of i", RefusalsTest::some, x -> x.copy(2, 4, 2, 0, 0), INDEX);
    faulty("copy: INDEX of j", RefusalsTest::some, x -> x.copy(2, 0, 2, 2, 2), INDEX);
    faulty("copy: INDEX of n", RefusalsTest::some, x -> x.copy(2, 0, 2, 1, -1), INDEX);
  }

  // ---- 23 to 28

  private static void parts() {
    silent("tell: SORT", RefusalsTest::some, x -> x.tell(5), UNKNOWN);
    silent("drop: SORT", RefusalsTest::some, x -> x.drop(5), UNKNOWN);
    refused("as: SORT ahead of kind", RefusalsTest::some, x -> x.as(5, 3), UNKNOWN);
    refused("as: no FLOOR ahead of kind", RefusalsTest::bare, x -> x.as(0, -1), UNKNOWN);
    refused("as: kind ahead of CAST", RefusalsTest::some, x -> x.as(0, 3), OUTSIDE);
    refused("as: kind below", RefusalsTest::some, x -> x.as(2, -1), OUTSIDE);
    faulty("as: CAST", RefusalsTest::some, x -> x.as(1, 2), CAST);
    silent("many: what", RefusalsTest::some, x -> x.many(4), OUTSIDE);
  }

  /** The least and the greatest int in place of each number that is told by its bounds. */
  private static void farOff() {
    for (int v : new int[] {Integer.MIN_VALUE, HIGH}) {
      String of = " " + v;
      refused("floor: SHEET" + of, RefusalsTest::some, x -> x.floor(v, 2, 0, 1), UNKNOWN);
      refused("floor: LANE" + of, RefusalsTest::some, x -> x.floor(2, v, 0, 1), OUTSIDE);
      faulty("floor: i" + of, RefusalsTest::some, x -> x.floor(2, 2, v, 1), INDEX);
      faulty("floor: n" + of, RefusalsTest::some, x -> x.floor(2, 2, 1, v), v < 0 ? SIZE : INDEX);
      refused("plan: SHEET" + of, RefusalsTest::some, x -> x.plan(v, 2, 0, 1, 0), UNKNOWN);
      refused("plan: LANE" + of, RefusalsTest::some, x -> x.plan(2, v, 0, 1, 0), OUTSIDE);
      faulty("plan: i" + of, RefusalsTest::some, x -> x.plan(2, 2, v, 1, 0), INDEX);
      refused("plan: n" + of, RefusalsTest::some, x -> x.plan(2, 2, 0, v, 0), OUTSIDE);
      refused("plan: what" + of, RefusalsTest::some, x -> x.plan(2, 2, 0, 1, v), OUTSIDE);
      refused("line: SHEET" + of, RefusalsTest::some, x -> x.line(v, 2, 0, 1), UNKNOWN);
      refused("line: LANE" + of, RefusalsTest::some, x -> x.line(2, v, 0, 1), OUTSIDE);
      faulty("line: i" + of, RefusalsTest::some, x -> x.line(2, 2, v, 1), INDEX);
      refused("line: n" + of, RefusalsTest::some, x -> x.line(2, 2, 0, v), OUTSIDE);
      refused("soon: set" + of, RefusalsTest::some, x -> x.soon(v, 2, 2, 0, 1), OUTSIDE);
      refused("soon: SHEET" + of, RefusalsTest::some, x -> x.soon(0, v, 2, 0, 1), UNKNOWN);
      refused("soon: LANE" + of, RefusalsTest::some, x -> x.soon(0, 2, v, 0, 1), OUTSIDE);
      faulty("soon: i" + of, RefusalsTest::some, x -> x.soon(0, 2, 2, v, 1), INDEX);
      refused("soon: n" + of, RefusalsTest::some, x -> x.soon(0, 2, 2, 0, v), OUTSIDE);
    }
  }

  /** Calls that only ask change nothing either. */
  private static void asked() {
    refused("plan asks", RefusalsTest::some, x -> x.plan(2, 2, 0, 1, 0), 71);
    refused("line asks", RefusalsTest::some, x -> x.line(2, 2, 0, 1), -9);
    refused("soon asks", RefusalsTest::some, x -> x.soon(1, 2, 2, 0, 1), -9);
    silent("order asks", RefusalsTest::some, x -> x.order(0), 2);
    silent("tree asks", RefusalsTest::some, x -> x.tree(1), 1);
    silent("odds asks", RefusalsTest::some, x -> x.odds(1, 1, 0), 31);
    silent("back of none", RefusalsTest::full, x -> x.back(0), 8);
    silent("lay of what lies there", RefusalsTest::some, x -> x.lay(4, 9), 9);
    silent("sign of what has it", RefusalsTest::some, x -> x.sign(2, 8), 8);
    refused("copy of no cells", RefusalsTest::some, x -> x.copy(2, 3, 2, 0, 0), 0);
    refused("as asks", RefusalsTest::some, x -> x.as(2, 0), 1);
    silent("trace asks", RefusalsTest::some, x -> x.trace(), 5);
    silent("fault asks", RefusalsTest::some, x -> x.fault(), BEFORE);
  }
}
