/** Counts what was looked at and what was wrong; helpers that lay texts and rows on sheets. */
final class Checks {
  private static int tests = 0;
  private static int looked = 0;
  private static int wrong = 0;
  private static String inTest = "";

  private Checks() {
  }

  static void due(String what, long got, long want) {
    looked++;
    if (got != want) {
      wrong++;
      System.out.println(inTest + what + " answered " + got + ", due is " + want);
    }
  }

  static void holds(String what, boolean so) {
    due(what, so ? 1 : 0, 1);
  }

  /** One test by its name; what the class throws is wrong, and ends this test alone. */
  static void test(String name, Runnable body) {
    tests++;
    int before = wrong;
    inTest = "  ";
    try {
      body.run();
    } catch (RuntimeException | StackOverflowError thrown) {
      wrong++;
      System.out.println(inTest + "threw " + thrown);
    }
    inTest = "";
    if (wrong != before) {
      System.out.println("BROKEN: " + name);
    }
  }

  static int wrongSoFar() {
    return wrong;
  }

  static void end(String name) {
    String inTests = tests == 0 ? "" : tests + " tests, ";
    System.out.println(name + ": " + inTests + looked + " looked at, " + wrong + " wrong");
    System.exit(wrong == 0 ? 0 : 1);
  }

  /** A row of ints on a SHEET. */
  static void row(FloorType x, int sheet, int... cells) {
    rowOf(x, sheet, 2, cells);
  }

  static void rowOf(FloorType x, int sheet, int lane, int... cells) {
    x.sheet(sheet, lane, cells.length);
    for (int i = 0; i < cells.length; i++) {
      x.put(sheet, i, cells[i]);
    }
  }

  static int read(FloorType x, String text) {
    row(x, 0, text.chars().toArray());
    return x.floor(0, 2, 0, text.length());
  }

  static FloorType floorOf(String text) {
    FloorType x = new FloorType();
    int sorts = read(x, text);
    holds(text + " is taken", sorts >= 2);
    return x;
  }
}
