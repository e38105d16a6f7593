/** The boundary cases of SHEETS (promises 18 to 22). */
public final class SheetEdgesTest {
  private static final int UNKNOWN = -1, OUTSIDE = -2;
  private static final int NULL = -11, CAST = -12, INDEX = -13, SIZE = -14;
  private static final long LOST = Long.MIN_VALUE;
  private static final int LOW = Integer.MIN_VALUE, HIGH = Integer.MAX_VALUE;
  private static final int[] NO_SHEETS = {LOW, -1, 4, 5, HIGH};
  private static final int[] NO_LANES = {LOW, -1, 3, HIGH};

  public static void main(String[] args) {
    sheets();
    sheetsAnew();
    loses();
    puts();
    cuts();
    cells();
    cellsFaults();
    copies();
    copiesBeyond();
    copiesOfItself();
    copiesFaults();
    Checks.end("SheetEdgesTest");
  }

  private static FloorType with(int sheet, int lane, int... cells) {
    FloorType x = new FloorType();
    Checks.rowOf(x, sheet, lane, cells);
    return x;
  }

  /** All cells of a SHEET, and that there are no more. */
  private static void has(FloorType x, int sheet, int lane, int... cells) {
    for (int i = 0; i < cells.length; i++) {
      Checks.due("cell " + i, x.cell(sheet, i, lane), cells[i]);
    }
    Checks.due("behind the last cell", x.cell(sheet, cells.length, lane), LOST);
    Checks.due("is INDEX", x.fault(), 3);
  }

  private static int[] counted(int n) {
    int[] cells = new int[n];
    for (int i = 0; i < n; i++) {
      cells[i] = i + 1;
    }
    return cells;
  }

  // ---- 18

  private static void sheets() {
    Checks.test("sheet: SHEETS 0 .. 3", () -> {
      FloorType x = new FloorType();
      for (int k = 0; k < 4; k++) {
        Checks.due("SHEET " + k, x.sheet(k, 0, 1), 1);
      }
      for (int k : NO_SHEETS) {
        Checks.due("SHEET " + k, x.sheet(k, 0, 1), UNKNOWN);
      }
    });
    Checks.test("sheet: LANES 0 .. 2", () -> {
      FloorType x = new FloorType();
      for (int lane = 0; lane < 3; lane++) {
        Checks.due("LANE " + lane, x.sheet(lane, lane, 1), 1);
        has(x, lane, lane, 0);
      }
      for (int lane : NO_LANES) {
        Checks.due("LANE " + lane, x.sheet(0, lane, 1), OUTSIDE);
      }
    });
    Checks.test("sheet: 60 cells, each 0 at first, 61 are OUTSIDE", () -> {
      FloorType x = new FloorType();
      Checks.due("60", x.sheet(3, 2, 60), 1);
      has(x, 3, 2, new int[60]);
      Checks.due("61", x.sheet(3, 2, 61), OUTSIDE);
      Checks.due("greatest", x.sheet(3, 2, HIGH), OUTSIDE);
      Checks.due("no FAULT", x.fault(), 0);
    });
    Checks.test("sheet: 0 cells are a row, which is not nothing", () -> {
      FloorType x = new FloorType();
      Checks.due("0", x.sheet(1, 1, 0), 1);
      has(x, 1, 1);
      Checks.due("it had something", x.lose(1), 1);
    });
    Checks.test("sheet: a length below 0 is SIZE", () -> {
      FloorType x = new FloorType();
      Checks.due("-1", x.sheet(1, 1, -1), SIZE);
      Checks.due("fault", x.fault(), 4);
      Checks.due("least", x.sheet(1, 1, LOW), SIZE);
      Checks.due("it has nothing still", x.lose(1), 0);
    });
  }

  private static void sheetsAnew() {
    Checks.test("sheet: a new row has 0 in all cells", () -> {
      FloorType x = with(0, 2, counted(60));
      x.sheet(0, 2, 60);
      has(x, 0, 2, new int[60]);
    });
    Checks.test("sheet: a shorter row and a longer one behind it", () -> {
      FloorType x = with(0, 2, counted(5));
      x.sheet(0, 2, 2);
      has(x, 0, 2, 0, 0);
      x.sheet(0, 2, 5);
      has(x, 0, 2, 0, 0, 0, 0, 0);
    });
    Checks.test("sheet: a new row of another LANE", () -> {
      FloorType x = with(0, 2, 1000);
      x.sheet(0, 0, 1);
      x.put(0, 0, 1000);
      has(x, 0, 0, (byte) 1000);
    });
    Checks.test("sheet: other SHEETS stay as they are", () -> {
      FloorType x = with(1, 2, counted(60));
      x.sheet(0, 2, 60);
      x.sheet(2, 2, 60);
      has(x, 1, 2, counted(60));
    });
  }

  // ---- 19

  private static void loses() {
    Checks.test("lose: SHEETS 0 .. 3", () -> {
      FloorType x = new FloorType();
      for (int k = 0; k < 4; k++) {
        Checks.due("nothing", x.lose(k), 0);
        x.sheet(k, 0, 60);
        Checks.due("something", x.lose(k), 1);
        Checks.due("nothing again", x.lose(k), 0);
      }
      for (int k : NO_SHEETS) {
        Checks.due("SHEET " + k, x.lose(k), UNKNOWN);
      }
    });
    Checks.test("lose: what it had is gone, a new row has 0", () -> {
      FloorType x = with(0, 2, 7, 8);
      x.lose(0);
      Checks.due("put", x.put(0, 0, 1), NULL);
      x.sheet(0, 2, 2);
      has(x, 0, 2, 0, 0);
    });
    Checks.test("lose: other SHEETS stay as they are", () -> {
      FloorType x = with(1, 2, 7, 8);
      Checks.rowOf(x, 0, 2, 9);
      x.lose(0);
      has(x, 1, 2, 7, 8);
    });
  }

  // ---- 20

  private static void puts() {
    Checks.test("put: SHEETS 0 .. 3", () -> {
      FloorType x = new FloorType();
      for (int k = 0; k < 4; k++) {
        x.sheet(k, 2, 1);
        Checks.due("SHEET " + k, x.put(k, 0, k + 5), 1);
      }
      for (int k = 0; k < 4; k++) {
        has(x, k, 2, k + 5);
      }
      for (int k : NO_SHEETS) {
        Checks.due("SHEET " + k, x.put(k, 0, 1), UNKNOWN);
      }
    });
    Checks.test("put: cells 0 .. the last", () -> {
      FloorType x = with(1, 2, new int[60]);
      Checks.due("first", x.put(1, 0, 7), 1);
      Checks.due("last", x.put(1, 59, 8), 1);
      for (int i : new int[] {LOW, -1, 60, 61, HIGH}) {
        Checks.due("cell " + i, x.put(1, i, 9), INDEX);
        Checks.due("fault", x.fault(), 3);
      }
      Checks.due("first stays", x.cell(1, 0, 2), 7);
      Checks.due("last stays", x.cell(1, 59, 2), 8);
    });
    Checks.test("put: behind a short row is another SHEET's no cell", () -> {
      FloorType x = with(0, 2, 1, 2);
      Checks.rowOf(x, 1, 2, 3);
      Checks.due("third of two", x.put(0, 2, 9), INDEX);
      Checks.due("at 60", x.put(0, 60, 9), INDEX);
      Checks.due("ahead of the first", x.put(1, -60, 9), INDEX);
      has(x, 0, 2, 1, 2);
      has(x, 1, 2, 3);
    });
    Checks.test("put: an empty row has no cell", () -> {
      FloorType x = with(0, 0);
      Checks.due("0", x.put(0, 0, 1), INDEX);
      Checks.due("-1", x.put(0, -1, 1), INDEX);
    });
    Checks.test("put: into nothing", () -> {
      FloorType x = new FloorType();
      Checks.due("0", x.put(0, 0, 1), NULL);
      Checks.due("fault", x.fault(), 1);
      Checks.due("NULL ahead of INDEX", x.put(0, HIGH, 1), NULL);
    });
  }

  private static void cut(int lane, int v, int want) {
    FloorType x = with(2, lane, 1, v, 1);
    has(x, 2, lane, 1, want, 1);
  }

  private static void cuts() {
    Checks.test("bytes are -128 .. 127, and wrap around", () -> {
      cut(0, 127, 127);
      cut(0, 128, -128);
      cut(0, -128, -128);
      cut(0, -129, 127);
      cut(0, 255, -1);
      cut(0, 256, 0);
      cut(0, LOW, 0);
      cut(0, HIGH, -1);
    });
    Checks.test("shorts are -32768 .. 32767, and wrap around", () -> {
      cut(1, 32767, 32767);
      cut(1, 32768, -32768);
      cut(1, -32768, -32768);
      cut(1, -32769, 32767);
      cut(1, 65535, -1);
      cut(1, 65536, 0);
      cut(1, LOW, 0);
      cut(1, HIGH, -1);
    });
    Checks.test("ints are as they are", () -> {
      cut(2, LOW, LOW);
      cut(2, HIGH, HIGH);
      cut(2, -1, -1);
      cut(2, 65536, 65536);
    });
  }

  // ---- 21

  private static void cells() {
    Checks.test("cell: SHEETS 0 .. 3, others are LOST and no FAULT", () -> {
      FloorType x = new FloorType();
      for (int k = 0; k < 4; k++) {
        Checks.rowOf(x, k, 1, k + 5);
      }
      for (int k = 0; k < 4; k++) {
        Checks.due("SHEET " + k, x.cell(k, 0, 1), k + 5);
      }
      for (int k : NO_SHEETS) {
        Checks.due("SHEET " + k, x.cell(k, 0, 1), LOST);
        Checks.due("no FAULT", x.fault(), 0);
      }
    });
    Checks.test("cell: LANES 0 .. 2, others are LOST and no FAULT", () -> {
      FloorType x = with(0, 0, 7);
      Checks.due("LANE 0", x.cell(0, 0, 0), 7);
      for (int lane : NO_LANES) {
        Checks.due("LANE " + lane, x.cell(0, 0, lane), LOST);
        Checks.due("no FAULT", x.fault(), 0);
      }
    });
    Checks.test("cell: 0 .. the last, others are INDEX", () -> {
      FloorType x = with(3, 2, counted(60));
      Checks.due("first", x.cell(3, 0, 2), 1);
      Checks.due("last", x.cell(3, 59, 2), 60);
      for (int i : new int[] {LOW, -1, 60, 61, HIGH}) {
        Checks.due("cell " + i, x.cell(3, i, 2), LOST);
        Checks.due("INDEX", x.fault(), 3);
      }
    });
    Checks.test("cell: the least int is none that is LOST", () -> {
      FloorType x = with(3, 2, LOW);
      Checks.due("least", x.cell(3, 0, 2), (long) LOW);
      Checks.due("no FAULT", x.fault(), 0);
    });
  }

  private static void cellsFaults() {
    Checks.test("cell: each LANE but its own is CAST", () -> {
      for (int own = 0; own < 3; own++) {
        FloorType x = with(0, own, 7);
        for (int lane = 0; lane < 3; lane++) {
          Checks.due("LANE " + lane, x.cell(0, 0, lane), lane == own ? 7 : LOST);
          Checks.due("fault", x.fault(), lane == own ? 0 : 2);
        }
      }
    });
    Checks.test("cell: CAST ahead of INDEX, also of an empty row", () -> {
      FloorType x = with(0, 0);
      x.cell(0, 0, 1);
      Checks.due("CAST", x.fault(), 2);
      x.cell(0, 0, 0);
      Checks.due("INDEX", x.fault(), 3);
    });
    Checks.test("cell: nothing is no CAST, but NULL, ahead of INDEX", () -> {
      FloorType x = new FloorType();
      for (int lane = 0; lane < 3; lane++) {
        Checks.due("LANE " + lane, x.cell(0, -1, lane), LOST);
        Checks.due("NULL", x.fault(), 1);
      }
      Checks.rowOf(x, 0, 2, 1);
      x.lose(0);
      x.cell(0, 0, 0);
      Checks.due("NULL again", x.fault(), 1);
    });
  }

  // ---- 22

  private static void copies() {
    Checks.test("copy: SHEETS 0 .. 3, of both", () -> {
      FloorType x = new FloorType();
      for (int k = 0; k < 4; k++) {
        Checks.rowOf(x, k, 2, k + 5);
      }
      Checks.due("0 to 3", x.copy(0, 0, 3, 0, 1), 1);
      Checks.due("told", x.cell(3, 0, 2), 5);
      Checks.due("2 to 0", x.copy(2, 0, 0, 0, 1), 1);
      Checks.due("told", x.cell(0, 0, 2), 7);
      for (int k : NO_SHEETS) {
        Checks.due("from " + k, x.copy(k, 0, 1, 0, 1), UNKNOWN);
        Checks.due("to " + k, x.copy(1, 0, k, 0, 1), UNKNOWN);
        Checks.due("both " + k, x.copy(k, 0, k, 0, 1), UNKNOWN);
      }
    });
    Checks.test("copy: all 60 cells, in each LANE", () -> {
      for (int lane = 0; lane < 3; lane++) {
        FloorType x = with(1, lane, counted(60));
        x.sheet(2, lane, 60);
        Checks.due("60", x.copy(1, 0, 2, 0, 60), 60);
        has(x, 2, lane, counted(60));
        has(x, 1, lane, counted(60));
      }
    });
    Checks.test("copy: one cell, the last to the first", () -> {
      FloorType x = with(1, 2, 1, 2, 3);
      Checks.rowOf(x, 2, 2, 7, 8);
      Checks.due("1", x.copy(1, 2, 2, 0, 1), 1);
      has(x, 2, 2, 3, 8);
    });
    Checks.test("copy: none, i and j are 0 .. how many there are", () -> {
      FloorType x = with(1, 2, 1, 2, 3);
      Checks.rowOf(x, 2, 2, 7, 8);
      Checks.due("begins", x.copy(1, 0, 2, 0, 0), 0);
      Checks.due("ends", x.copy(1, 3, 2, 2, 0), 0);
      Checks.due("i behind", x.copy(1, 4, 2, 0, 0), INDEX);
      Checks.due("j behind", x.copy(1, 0, 2, 3, 0), INDEX);
      Checks.due("i ahead", x.copy(1, -1, 2, 0, 0), INDEX);
      Checks.due("j ahead", x.copy(1, 0, 2, -1, 0), INDEX);
      has(x, 2, 2, 7, 8);
    });
    Checks.test("copy: between empty rows none goes", () -> {
      FloorType x = with(1, 0);
      x.sheet(2, 0, 0);
      Checks.due("none", x.copy(1, 0, 2, 0, 0), 0);
      Checks.due("one", x.copy(1, 0, 2, 0, 1), INDEX);
    });
  }

  private static void copiesBeyond() {
    Checks.test("copy: n below 0 is INDEX, not SIZE", () -> {
      FloorType x = with(1, 2, 1, 2, 3);
      x.sheet(2, 2, 3);
      Checks.due("-1", x.copy(1, 1, 2, 1, -1), INDEX);
      Checks.due("fault", x.fault(), 3);
      Checks.due("least", x.copy(1, 1, 2, 1, LOW), INDEX);
    });
    Checks.test("copy: one cell too many of the first", () -> {
      FloorType x = with(1, 2, 1, 2, 3);
      x.sheet(2, 2, 60);
      Checks.due("3", x.copy(1, 0, 2, 0, 3), 3);
      Checks.due("4", x.copy(1, 0, 2, 0, 4), INDEX);
      Checks.due("3 from 1 on", x.copy(1, 1, 2, 0, 3), INDEX);
    });
    Checks.test("copy: one cell too many for the other: none goes", () -> {
      FloorType x = with(1, 2, 1, 2, 3);
      Checks.rowOf(x, 2, 2, 7, 8);
      Checks.due("3", x.copy(1, 0, 2, 0, 3), INDEX);
      Checks.due("2 to 1", x.copy(1, 0, 2, 1, 2), INDEX);
      has(x, 2, 2, 7, 8);
      Checks.due("2", x.copy(1, 0, 2, 0, 2), 2);
      has(x, 2, 2, 1, 2);
    });
    Checks.test("copy: i and n, j and n together wrap around", () -> {
      FloorType x = with(1, 2, 1, 2, 3);
      x.sheet(2, 2, 3);
      int[][] far = {{1, 0, HIGH}, {0, 1, HIGH}, {HIGH, 0, 1}, {0, HIGH, 1}, {HIGH, HIGH, HIGH},
          {LOW, 0, 1}, {0, LOW, 1}, {LOW, LOW, LOW}, {LOW, 0, HIGH}, {0, 0, LOW}};
      for (int[] f : far) {
        Checks.due(f[0] + " " + f[1] + " " + f[2], x.copy(1, f[0], 2, f[1], f[2]), INDEX);
      }
      has(x, 2, 2, 0, 0, 0);
    });
  }

  private static void copiesOfItself() {
    Checks.test("copy: to the same SHEET, upwards, as they were", () -> {
      FloorType x = with(1, 2, 1, 2, 3, 4, 5);
      Checks.due("4", x.copy(1, 0, 1, 1, 4), 4);
      has(x, 1, 2, 1, 1, 2, 3, 4);
    });
    Checks.test("copy: to the same SHEET, downwards, as they were", () -> {
      FloorType x = with(1, 2, 1, 2, 3, 4, 5);
      Checks.due("4", x.copy(1, 1, 1, 0, 4), 4);
      has(x, 1, 2, 2, 3, 4, 5, 5);
    });
    Checks.test("copy: to the same SHEET and place", () -> {
      FloorType x = with(1, 2, counted(60));
      Checks.due("60", x.copy(1, 0, 1, 0, 60), 60);
      has(x, 1, 2, counted(60));
      Checks.due("one place on", x.copy(1, 0, 1, 1, 60), INDEX);
    });
  }

  private static void copiesFaults() {
    Checks.test("copy: NULL of the first, of the other, of both", () -> {
      FloorType x = with(1, 2, 1);
      Checks.due("first", x.copy(0, 0, 1, 0, 1), NULL);
      Checks.due("other", x.copy(1, 0, 0, 0, 1), NULL);
      Checks.due("both", x.copy(0, 0, 3, 0, 1), NULL);
      Checks.due("itself", x.copy(0, 0, 0, 0, 0), NULL);
      Checks.due("fault", x.fault(), 1);
    });
    Checks.test("copy: unlike LANES are CAST, were no cell taken", () -> {
      for (int lane = 0; lane < 3; lane++) {
        for (int other = 0; other < 3; other++) {
          FloorType x = with(1, lane, 1);
          x.sheet(2, other, 1);
          Checks.due(lane + " to " + other, x.copy(1, 0, 2, 0, 0), lane == other ? 0 : CAST);
          Checks.due("fault", x.fault(), lane == other ? 0 : 2);
        }
      }
    });
  }
}
