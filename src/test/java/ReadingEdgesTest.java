/** The boundary cases of READINGS and of what follows from them (promises 13 to 17). */
public final class ReadingEdgesTest {
  private static final int UNKNOWN = -1, OUTSIDE = -2, FULL = -4;
  private static final int LOW = Integer.MIN_VALUE, HIGH = Integer.MAX_VALUE;
  private static final int ALL_COUNTS = 1023, ALL_KINDS = 7, ALL_SPEEDS = 1022;
  /** 10, 2, 16, 16, 9 seconds. */
  private static final String FIVE = "t;p521;s110;d232;p442;p333/03/05/24";
  /** 180 seconds each. */
  private static final String DEAREST = "t;d995;d995;d995;d995;d995;d990/01";

  public static void main(String[] args) {
    readingsAsked();
    readingsFull();
    readingsBack();
    whom();
    howManyHold();
    counts();
    kinds();
    speeds();
    inPlaceOf();
    Checks.end("ReadingEdgesTest");
  }

  /** A FLOOR with one READING. */
  private static FloorType read(String text, int set, int v) {
    FloorType x = Checks.floorOf(text);
    Checks.due("its number", x.reading(set, v), 0);
    return x;
  }

  private static void all(FloorType x, int s, int counts, int kinds, int speeds) {
    Checks.due("COUNTS of " + s, x.counts(s), counts);
    Checks.due("KINDS of " + s, x.kinds(s), kinds);
    Checks.due("SPEEDS of " + s, x.speeds(s), speeds);
  }

  private static void readingsAsked() {
    Checks.test("reading: a set is 0 .. all SORTS that there are", () -> {
      FloorType x = Checks.floorOf("t;p521;s110/01");
      Checks.due("none", x.reading(0, 0), 0);
      Checks.due("all", x.reading(3, 0), 1);
      for (int set : new int[] {LOW, -1, 4, 63, 64, HIGH}) {
        Checks.due("set " + set, x.reading(set, 0), OUTSIDE);
      }
      Checks.due("READINGS", x.many(3), 2);
    });
    Checks.test("reading: of six SORTS 63 is all, 64 is OUTSIDE", () -> {
      FloorType x = Checks.floorOf(DEAREST);
      Checks.due("63", x.reading(63, 0), 0);
      Checks.due("64", x.reading(64, 0), OUTSIDE);
    });
    Checks.test("reading: v is 0 .. 9999", () -> {
      FloorType x = Checks.floorOf(FIVE);
      Checks.due("0", x.reading(1, 0), 0);
      Checks.due("9999", x.reading(1, 9999), 1);
      for (int v : new int[] {LOW, -1, 10000, HIGH}) {
        Checks.due("v " + v, x.reading(1, v), OUTSIDE);
      }
      Checks.due("READINGS", x.many(3), 2);
    });
  }

  private static void readingsFull() {
    Checks.test("READINGS are 8 at most, numbered from 0 on", () -> {
      FloorType x = Checks.floorOf(FIVE);
      for (int r = 0; r < 8; r++) {
        Checks.due("its number", x.reading(1, 10), r);
      }
      Checks.due("the ninth", x.reading(1, 10), FULL);
      Checks.due("once more", x.reading(1, 10), FULL);
      Checks.due("READINGS", x.many(3), 8);
    });
    Checks.test("a READING that is FULL does not count", () -> {
      FloorType x = Checks.floorOf(FIVE);
      for (int r = 0; r < 8; r++) {
        x.reading(1, 10);
      }
      Checks.due("not so", x.reading(1, 11), FULL);
      Checks.due("COUNTS", x.counts(0), 1 << 5);
    });
    Checks.test("the eighth READING counts", () -> {
      FloorType x = Checks.floorOf(FIVE);
      for (int r = 0; r < 7; r++) {
        x.reading(1, 10);
      }
      Checks.due("seven", x.counts(0), 1 << 5);
      x.reading(1, 11);
      Checks.due("eight", x.counts(0), 0);
    });
    Checks.test("one taken back makes room for one", () -> {
      FloorType x = Checks.floorOf(FIVE);
      for (int r = 0; r < 8; r++) {
        x.reading(1, 10);
      }
      Checks.due("left", x.back(1), 7);
      Checks.due("its number", x.reading(1, 10), 7);
      Checks.due("full again", x.reading(1, 10), FULL);
    });
  }

  private static void readingsBack() {
    Checks.test("back: k is 0 .. as many as there are", () -> {
      FloorType x = Checks.floorOf(FIVE);
      x.reading(1, 10);
      x.reading(1, 10);
      for (int k : new int[] {LOW, -1, 3, 8, HIGH}) {
        Checks.due("k " + k, x.back(k), OUTSIDE);
      }
      Checks.due("0", x.back(0), 2);
      Checks.due("all", x.back(2), 0);
      Checks.due("0 of none", x.back(0), 0);
      Checks.due("1 of none", x.back(1), OUTSIDE);
    });
    Checks.test("back: all eight", () -> {
      FloorType x = Checks.floorOf(FIVE);
      for (int r = 0; r < 8; r++) {
        x.reading(1, 10);
      }
      Checks.due("nine", x.back(9), OUTSIDE);
      Checks.due("eight", x.back(8), 0);
      Checks.due("the first again", x.reading(1, 10), 0);
    });
    Checks.test("back: without a FLOOR 0 is as many as there are", () -> {
      FloorType x = new FloorType();
      Checks.due("0", x.back(0), 0);
      Checks.due("1", x.back(1), OUTSIDE);
      Checks.due("-1", x.back(-1), OUTSIDE);
    });
    Checks.test("back: the last ones go, the first ones stay", () -> {
      FloorType x = read(FIVE, 1, 10);
      x.reading(1, 4);
      Checks.due("both", x.counts(0), 0);
      x.back(1);
      Checks.due("the first", x.counts(0), 1 << 5);
      x.reading(2, 4);
      Checks.due("a new second", x.counts(1), 1 << 2);
    });
  }

  private static void whom() {
    Checks.test("counts, kinds, speeds: SORTS 0 .. the last that there is", () -> {
      FloorType x = Checks.floorOf(FIVE);
      all(x, 0, ALL_COUNTS, ALL_KINDS, ALL_SPEEDS);
      all(x, 4, ALL_COUNTS, ALL_KINDS, ALL_SPEEDS);
      for (int s : new int[] {LOW, -1, 5, 6, HIGH}) {
        all(x, s, UNKNOWN, UNKNOWN, UNKNOWN);
      }
    });
    Checks.test("counts, kinds, speeds: the sixth SORT", () -> {
      FloorType x = read(DEAREST, 63, 6 * 180);
      all(x, 5, 1 << 9, 1 << 2, 1 << 9);
      all(x, 6, UNKNOWN, UNKNOWN, UNKNOWN);
    });
  }

  private static void howManyHold() {
    Checks.test("no READINGS: all of each", () ->
        all(Checks.floorOf(FIVE), 2, ALL_COUNTS, ALL_KINDS, ALL_SPEEDS));
    Checks.test("a READING of no SORTS is so, if it took 0 seconds", () ->
        all(read(FIVE, 0, 0), 2, ALL_COUNTS, ALL_KINDS, ALL_SPEEDS));
    Checks.test("a READING of no SORTS is not so, if it took 1 second", () -> all(read(FIVE, 0, 1), 2, 0, 0, 0));
    Checks.test("a READING of other SORTS that is so", () ->
        all(read(FIVE, 3, 12), 2, ALL_COUNTS, ALL_KINDS, ALL_SPEEDS));
    Checks.test("a READING of other SORTS that is not so, by one second", () -> {
      all(read(FIVE, 3, 11), 2, 0, 0, 0);
      all(read(FIVE, 3, 13), 2, 0, 0, 0);
    });
    Checks.test("a READING of all SORTS", () -> all(read(FIVE, 31, 53), 2, 1 << 2, 1 << 2, 1 << 3));
    Checks.test("a READING that took less than the others alone", () -> all(read(FIVE, 31, 36), 2, 0, 0, 0));
    Checks.test("a READING of the most seconds is never so", () -> {
      FloorType x = read(DEAREST, 63, 9999);
      for (int s = 0; s < 6; s++) {
        all(x, s, 0, 0, 0);
      }
    });
    Checks.test("two READINGS that cannot both be so", () -> {
      FloorType x = read(FIVE, 1, 10);
      x.reading(1, 12);
      all(x, 0, 0, 0, 0);
    });
    Checks.test("two READINGS that are both so by one number", () -> {
      FloorType x = read(FIVE, 1, 8);
      x.reading(3, 10);
      all(x, 0, 1 << 4, 0, 0);
    });
  }

  private static void counts() {
    Checks.test("COUNTS: 0 is the least", () -> {
      Checks.due("0 seconds", read(FIVE, 4, 0).counts(2), 1);
      Checks.due("0 beside others", read(FIVE, 5, 10).counts(2), 1);
      Checks.due("below 0", read(FIVE, 5, 2).counts(2), 0);
    });
    Checks.test("COUNTS: 9 is the greatest, 10 is none", () -> {
      Checks.due("9", read(FIVE, 4, 72).counts(2), 1 << 9);
      Checks.due("10", read(FIVE, 4, 80).counts(2), 0);
    });
    Checks.test("COUNTS: between two numbers there is none", () -> {
      Checks.due("8", read(FIVE, 4, 8).counts(2), 2);
      Checks.due("9", read(FIVE, 4, 9).counts(2), 0);
      Checks.due("15", read(FIVE, 4, 15).counts(2), 0);
    });
    Checks.test("COUNTS of LOOKS of 1 and of 20 seconds", () -> {
      FloorType x = read("t;p510;d590/01", 1, 9);
      Checks.due("1", x.counts(0), 1 << 9);
      x.back(1);
      x.reading(2, 180);
      Checks.due("20", x.counts(1), 1 << 9);
    });
    Checks.test("COUNTS tell, but change nothing", () -> {
      FloorType x = read(FIVE, 1, 18);
      Checks.due("9", x.counts(0), 1 << 9);
      Checks.due("COUNT", x.ofSort(0, 1), 5);
      Checks.due("letters", x.many(2), 15);
    });
  }

  private static void kinds() {
    Checks.test("KINDS: each by its own LOOK", () -> {
      Checks.due("PICKING", read(FIVE, 8, 16).kinds(3), 1);
      Checks.due("SURE", read(FIVE, 8, 20).kinds(3), 2);
      Checks.due("DOUBTFUL", read(FIVE, 8, 40).kinds(3), 4);
      Checks.due("none", read(FIVE, 8, 36).kinds(3), 0);
    });
    Checks.test("KINDS of one letter of 1 second: 1, 2, 4", () -> {
      for (int v = 0; v <= 5; v++) {
        int due = v == 1 ? 1 : v == 2 ? 2 : v == 4 ? 4 : 0;
        Checks.due("v " + v, read("t;p110;p110/01", 1, v).kinds(0), due);
      }
    });
    Checks.test("KINDS of nine letters of 9 seconds: 81, 90, 180", () -> {
      Checks.due("PICKING", read(DEAREST, 1, 81).kinds(0), 1);
      Checks.due("SURE", read(DEAREST, 1, 90).kinds(0), 2);
      Checks.due("DOUBTFUL", read(DEAREST, 1, 180).kinds(0), 4);
      Checks.due("less", read(DEAREST, 1, 80).kinds(0), 0);
      Checks.due("more", read(DEAREST, 1, 181).kinds(0), 0);
    });
    Checks.test("KINDS of 0 letters: all in 0 seconds, else none", () -> {
      Checks.due("0", read("t;p010;p110/01", 1, 0).kinds(0), ALL_KINDS);
      Checks.due("1", read("t;p010;p110/01", 1, 1).kinds(0), 0);
    });
    Checks.test("KINDS tell, but change nothing", () -> {
      FloorType x = read(FIVE, 8, 40);
      x.kinds(3);
      Checks.due("kind", x.ofSort(3, 0), 0);
      Checks.due("LOOK", x.ofSort(3, 4), 4);
    });
  }

  private static void speeds() {
    Checks.test("SPEEDS: 1 is the least, 0 is none", () -> {
      Checks.due("PICKING 1", read(FIVE, 1, 5).speeds(0), 2);
      Checks.due("PICKING 0", read(FIVE, 1, 0).speeds(0), 0);
      Checks.due("SURE 1", read(FIVE, 2, 2).speeds(1), 2);
      Checks.due("SURE 0", read(FIVE, 2, 1).speeds(1), 0);
      Checks.due("DOUBTFUL 1", read(FIVE, 4, 8).speeds(2), 2);
      Checks.due("DOUBTFUL 0", read(FIVE, 4, 4).speeds(2), 0);
    });
    Checks.test("SPEEDS: 9 is the greatest, 10 is none", () -> {
      Checks.due("PICKING 9", read(FIVE, 1, 45).speeds(0), 1 << 9);
      Checks.due("PICKING 10", read(FIVE, 1, 50).speeds(0), 0);
      Checks.due("SURE 9", read(FIVE, 2, 10).speeds(1), 1 << 9);
      Checks.due("SURE 10", read(FIVE, 2, 11).speeds(1), 0);
      Checks.due("DOUBTFUL 9", read(FIVE, 4, 40).speeds(2), 1 << 9);
      Checks.due("DOUBTFUL 10", read(FIVE, 4, 44).speeds(2), 0);
    });
    Checks.test("SPEEDS of 0 letters: 1 .. 9 in 0 seconds, else none", () -> {
      Checks.due("0", read("t;d010;p110/01", 1, 0).speeds(0), ALL_SPEEDS);
      Checks.due("1", read("t;d010;p110/01", 1, 1).speeds(0), 0);
    });
    Checks.test("SPEEDS: between two numbers there is none", () -> {
      Checks.due("14", read(FIVE, 1, 14).speeds(0), 0);
      Checks.due("15", read(FIVE, 1, 15).speeds(0), 1 << 3);
      Checks.due("16", read(FIVE, 1, 16).speeds(0), 0);
    });
    Checks.test("SPEEDS tell, but change nothing", () -> {
      FloorType x = read(FIVE, 1, 45);
      x.speeds(0);
      Checks.due("SECONDS", x.ofSort(0, 2), 2);
    });
  }

  private static void inPlaceOf() {
    Checks.test("in place of what it is alone: the others are as they are now", () -> {
      FloorType x = read(FIVE, 3, 20);
      all(x, 0, 1 << 9, 0, 0);
      all(x, 1, 1 << 5, 0, 1 << 9);
      x.lay(0, 9);
      all(x, 1, 2, 2, 2);
      all(x, 2, ALL_COUNTS, ALL_KINDS, ALL_SPEEDS);
    });
    Checks.test("in place of its COUNT, its COUNT does not matter", () -> {
      FloorType x = read(FIVE, 1, 10);
      x.lay(0, 0);
      all(x, 0, 1 << 5, 0, 0);
      x.lay(0, 1);
      all(x, 0, 1 << 5, 0, 0);
      x.lay(0, 5);
      all(x, 0, 1 << 5, 1, 1 << 2);
    });
    Checks.test("SIGNS and SHEETS don't matter", () -> {
      FloorType x = read(FIVE, 1, 10);
      x.sign(0, 63);
      x.lose(0);
      all(x, 0, 1 << 5, 1, 1 << 2);
    });
  }
}
