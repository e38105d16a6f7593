/** Counts what was looked at and what was wrong; helpers that lay texts and rows on sheets. */
final class Checks {
  private static int looked = 0;
  private static int wrong = 0;

  private Checks() {
  }

  static void due(String what, long got, long want) {
    looked++;
    if (got != want) {
      wrong++;
      System.out.println(what + " answered " + got + ", due is " + want);
    }
  }

  static void holds(String what, boolean so) {
    due(what, so ? 1 : 0, 1);
  }

  static int wrongSoFar() {
    return wrong;
  }

  static void end(String name) {
    System.out.println(name + ": " + looked + " looked at, " + wrong + " wrong");
    System.exit(wrong == 0 ? 0 : 1);
  }

  /** A row of ints on a SHEET. */
  static void row(FloorType x, int sheet, int... cells) {
    x.sheet(sheet, 2, cells.length);
    for (int i = 0; i < cells.length; i++) {
      x.put(sheet, i, cells[i]);
    }
  }

  static int read(FloorType x, String text) {
    row(x, 0, text.chars().toArray());
    return x.floor(0, 2, 0, text.length());
  }

  static FloorType floorOf(String text) {
    FloorType x = new FloorType();
    int sorts = read(x, text);
    holds(text + " is taken", sorts >= 2);
    return x;
  }
}
