/** The boundary cases of ORDERS and TREES (promises 10, 11) and of ODDS (12). */
public final class OrderEdgesTest {
  private static final int OUTSIDE = -2, NONE = -9;
  private static final long LOST = Long.MIN_VALUE;
  private static final int LOW = Integer.MIN_VALUE, HIGH = Integer.MAX_VALUE;
  private static final String FIVE = "t;p521;s110;d232;p442;p333/03/05/24";
  private static final String DEAREST = "t;d995;d995;d995;d995;d995;d990/01/02/04/08/16";
  /** Five PICKINGS alike SORT 5: 45 letters that may go there. */
  private static final String MOST_ALIKE = "t;p915;p915;p915;p915;p915;p915/00";

  public static void main(String[] args) {
    ordersAsked();
    ordersFound();
    ordersOfSeveral();
    treesAsked();
    treesFound();
    treesOfSeveral();
    oddsAsked();
    oddsOfLetters();
    oddsOfWhom();
    Checks.end("OrderEdgesTest");
  }

  // ---- 10

  private static void row(FloorType x, int seconds, int... signs) {
    Checks.due("seconds", x.order(-1), seconds);
    for (int k = 0; k < 5; k++) {
      Checks.due("SIGN " + k + " of the row", x.order(k), k < signs.length ? signs[k] : NONE);
    }
  }

  private static void none(FloorType x) {
    row(x, NONE);
  }

  private static void ordersAsked() {
    Checks.test("order: k is -1 .. 4", () -> {
      FloorType x = Checks.floorOf(DEAREST);
      Checks.due("-1", x.order(-1), 3600);
      Checks.due("0", x.order(0), 0);
      Checks.due("4", x.order(4), 4);
      for (int k : new int[] {LOW, -9, -2, 5, 6, HIGH}) {
        Checks.due("k " + k, x.order(k), OUTSIDE);
      }
    });
    Checks.test("order: k 4 is asked of fewer SIGNS, too", () -> {
      FloorType x = Checks.floorOf("t;p110;p110/01");
      Checks.due("1", x.order(1), NONE);
      Checks.due("4", x.order(4), NONE);
      Checks.due("5", x.order(5), OUTSIDE);
    });
  }

  private static void ordersFound() {
    Checks.test("ORDER: there is none", () -> none(Checks.floorOf(FIVE)));
    Checks.test("ORDER: none, were all SORTS of 0 letters", () -> none(Checks.floorOf("t;p010;p010/00/03")));
    Checks.test("ORDER: a SORT that shares all SIGNS with one of 0 letters is not READY", () ->
        none(Checks.floorOf("t;p110;p110;p010/01/01")));
    Checks.test("ORDER: a row of one SIGN", () -> row(Checks.floorOf("t;p110;p120/02"), 3, 0));
    Checks.test("ORDER: a row of all five SIGNS", () ->
        row(Checks.floorOf("t;p110;p110;p110;p110;p110;p110/01/02/04/08/16"), 20, 0, 1, 2, 3, 4));
    Checks.test("ORDER: the most seconds", () -> row(Checks.floorOf(DEAREST), 3600, 0, 1, 2, 3, 4));
    Checks.test("ORDER: the fewest seconds are 0, which is not NONE", () ->
        row(Checks.floorOf("t;p090;p090/01"), 0, 0));
    Checks.test("ORDER: by SIGNS that single out the longest LOOKS first", () ->
        row(Checks.floorOf("t;p110;p120;p130;p140;p150;p160/01/02/04/08/16"), 21 + 16 + 12 + 9 + 7, 4, 3, 2, 1, 0));
    Checks.test("ORDER: SIGNS that are not needed stay away", () -> {
      row(Checks.floorOf("t;p110;p110/00/03/02/01"), 2, 2);
      row(Checks.floorOf("t;p110;p110;p110;p110/03/05/06"), 8, 0, 1);
    });
    Checks.test("ORDER: by SIGNS and letters as they are now", () -> {
      FloorType x = Checks.floorOf(FIVE);
      x.sign(2, 8);
      row(x, 127, 2, 0, 1);
      x.lay(3, 0);
      row(x, 37 + 37 + 9, 0, 1, 2);
      x.sign(2, 24);
      none(x);
    });
  }

  private static void ordersOfSeveral() {
    Checks.test("ORDER of several: the first as a row", () -> {
      row(Checks.floorOf("t;p110;p110/01/02"), 2, 0);
      row(Checks.floorOf("t;p110;p110;p110/04/02/01"), 5, 0, 1);
      row(Checks.floorOf("t;p110;p110;p110;p110/03/05/06"), 8, 0, 1);
    });
    Checks.test("ORDER of several: a shorter one ahead of those that begin with it", () -> {
      row(Checks.floorOf("t;p010;p010/01/02/01/02/01"), 0, 0);
      row(Checks.floorOf("t;p110;p110/01/00/03"), 2, 0);
    });
    Checks.test("ORDER of several: a longer one ahead, if it is first as a row", () -> {
      row(Checks.floorOf("t;p010;p010/00/01"), 0, 0, 1);
      row(Checks.floorOf("t;p010;p010/00/03/00/03/01"), 0, 0, 1, 2, 3, 4);
      row(Checks.floorOf("t;p010;p010;p010/02/00/01"), 0, 0, 1, 2);
    });
    Checks.test("ORDER of several: where letters lie, an idle SIGN costs seconds", () -> {
      row(Checks.floorOf("t;p110;p010/00/01"), 1, 1);
      row(Checks.floorOf("t;p110;p010;p010/02/00/01/03"), 1, 2, 0);
      // SORT 2 lies alone at once; then nothing is left to look at, and the idle ones come first
      row(Checks.floorOf("t;p010;p010;p110/00/04/03/01"), 1, 1, 0, 2, 3);
    });
    Checks.test("ORDER: each SIGN once at most", () ->
        row(Checks.floorOf("t;p010;p010;p010/01/01/02"), 0, 0, 1, 2));
  }

  // ---- 11

  private static void tree(String text, int seconds, int first) {
    FloorType x = Checks.floorOf(text);
    Checks.due("seconds", x.tree(0), seconds);
    Checks.due("FIRST", x.tree(1), first);
  }

  private static void treesAsked() {
    Checks.test("tree: what is 0, 1", () -> {
      FloorType x = Checks.floorOf(DEAREST);
      Checks.due("0", x.tree(0), 3600);
      Checks.due("1", x.tree(1), 0);
      for (int what : new int[] {LOW, -1, 2, HIGH}) {
        Checks.due("what " + what, x.tree(what), OUTSIDE);
      }
    });
  }

  private static void treesFound() {
    Checks.test("TREE: it can't be", () -> tree(FIVE, NONE, NONE));
    Checks.test("TREE: it can't be, were all SORTS of 0 letters", () -> tree("t;p010;p010/00/03", NONE, NONE));
    Checks.test("TREE: of two SORTS", () -> tree("t;p110;p120/02", 3, 0));
    Checks.test("TREE: of six SORTS by five SIGNS", () ->
        tree("t;p110;p120;p130;p140;p150;p160/01/02/04/08/16", 21 + 16 + 12 + 9 + 7, 4));
    Checks.test("TREE: the fewest seconds are 0, which is not NONE", () -> tree("t;p090;p090/03/01", 0, 1));
    Checks.test("TREE: one SIGN may part several HEAPS", () -> tree("t;p110;p110;p110;p110/03/05", 8, 0));
    Checks.test("TREE: HEAPS by SIGNS of their own, where one ORDER takes more", () -> {
      FloorType x = Checks.floorOf("t;p110;p110;p110;p110/03/01/04");
      Checks.due("TREE", x.tree(0), 8);
      Checks.due("ORDER", x.order(-1), 9);
    });
    Checks.test("TREE: by SIGNS and letters as they are now", () -> {
      FloorType x = Checks.floorOf("t;p110;p120/00");
      Checks.due("none", x.tree(0), NONE);
      x.sign(0, 1);
      x.lay(1, 9);
      Checks.due("seconds", x.tree(0), 19);
      Checks.due("FIRST", x.tree(1), 0);
    });
  }

  private static void treesOfSeveral() {
    Checks.test("FIRST: the least SIGN of several", () -> {
      tree("t;p110;p110/01/02/01/02/01", 2, 0);
      tree("t;p110;p110;p110/04/02/01", 5, 0);
    });
    Checks.test("FIRST: a lesser SIGN parts nothing", () -> {
      tree("t;p110;p110/00/03/01", 2, 2);
      tree("t;p010;p010/63/60/02", 0, 2);
    });
    Checks.test("FIRST: a lesser SIGN parts, but takes more", () -> tree("t;p110;p110;p190/01/04", 13, 1));
    Checks.test("FIRST: the fifth SIGN alone parts", () -> tree("t;p110;p110/00/03/00/03/01", 2, 4));
    Checks.test("TREE: parts that can't be parted on are no way", () ->
        tree("t;p110;p110;p110;p110/03/01", NONE, NONE));
  }

  // ---- 12

  private static void share(FloorType x, int s, int v, long upper, long lower) {
    Checks.due("upper of " + s + " " + v, x.odds(s, v, 0), upper);
    Checks.due("lower of " + s + " " + v, x.odds(s, v, 1), lower);
  }

  private static void oddsAsked() {
    Checks.test("odds: v is 0 .. 99", () -> {
      FloorType x = Checks.floorOf(FIVE);
      share(x, 1, 0, 1, 1);
      share(x, 1, 99, 0, 1);
      for (int v : new int[] {LOW, -1, 100, HIGH}) {
        Checks.due("v " + v, x.odds(1, v, 0), LOST);
        Checks.due("v " + v, x.odds(1, v, 1), LOST);
      }
    });
    Checks.test("odds: which is 0, 1", () -> {
      FloorType x = Checks.floorOf(FIVE);
      Checks.due("0", x.odds(1, 1, 0), 31);
      Checks.due("1", x.odds(1, 1, 1), 32);
      for (int which : new int[] {LOW, -1, 2, HIGH}) {
        Checks.due("which " + which, x.odds(1, 1, which), LOST);
      }
    });
    Checks.test("odds: SORTS 0 .. the last that there is", () -> {
      FloorType x = Checks.floorOf(FIVE);
      share(x, 0, 0, 1, 1);
      share(x, 4, 0, 1, 1);
      for (int s : new int[] {LOW, -1, 5, 6, HIGH}) {
        Checks.due("SORT " + s, x.odds(s, 0, 0), LOST);
      }
      share(Checks.floorOf(MOST_ALIKE), 5, 0, 1, 1);
      Checks.due("SORT 6", Checks.floorOf(MOST_ALIKE).odds(6, 0, 0), LOST);
    });
  }

  private static void oddsOfLetters() {
    Checks.test("ODDS of a BOX where no letter can go wrong", () -> {
      FloorType x = Checks.floorOf("t;p910;p910/00");
      x.lay(1, 0);
      share(x, 0, 0, 1, 1);
      share(x, 0, 1, 0, 1);
      share(x, 0, 99, 0, 1);
    });
    Checks.test("ODDS of one letter", () -> {
      FloorType x = Checks.floorOf("t;p911;p110/00");
      share(x, 0, 0, 1, 1);
      share(x, 0, 1, 1, 2);
      share(x, 0, 2, 0, 1);
    });
    Checks.test("ODDS of two letters, in least terms", () -> {
      FloorType x = Checks.floorOf("t;p911;p210/00");
      share(x, 0, 1, 3, 4);
      share(x, 0, 2, 1, 4);
      share(x, 0, 3, 0, 1);
    });
    Checks.test("ODDS of three letters: 4 of 8 are 1 of 2", () -> {
      FloorType x = Checks.floorOf("t;p911;p310/00");
      share(x, 0, 1, 7, 8);
      share(x, 0, 2, 1, 2);
      share(x, 0, 3, 1, 8);
    });
    Checks.test("ODDS of nine letters", () -> {
      FloorType x = Checks.floorOf("t;p911;p910/00");
      share(x, 0, 1, 511, 512);
      share(x, 0, 5, 1, 2);
      share(x, 0, 8, 5, 256);
      share(x, 0, 9, 1, 512);
      share(x, 0, 10, 0, 1);
    });
    Checks.test("ODDS of the most letters, 45", () -> {
      FloorType x = Checks.floorOf(MOST_ALIKE);
      share(x, 5, 1, (1L << 45) - 1, 1L << 45);
      share(x, 5, 2, (1L << 44) - 23, 1L << 44);
      share(x, 5, 23, 1, 2);
      share(x, 5, 44, 23, 1L << 44);
      share(x, 5, 45, 1, 1L << 45);
      share(x, 5, 46, 0, 1);
    });
    Checks.test("ODDS by the letters that are laid then", () -> {
      FloorType x = Checks.floorOf("t;p911;p010/00");
      share(x, 0, 1, 0, 1);
      x.lay(1, 9);
      share(x, 0, 9, 1, 512);
      x.lay(0, 0);
      share(x, 0, 9, 1, 512);
    });
  }

  private static void oddsOfWhom() {
    Checks.test("ODDS: PICKINGS alone, a SURE or DOUBTFUL one goes where it belongs", () -> {
      FloorType x = Checks.floorOf("t;p910;s910;d910;p210/00");
      share(x, 0, 1, 3, 4);
      share(x, 0, 3, 0, 1);
    });
    Checks.test("ODDS: the BOX may be of any kind", () -> {
      share(Checks.floorOf("t;s910;p110/00"), 0, 1, 1, 2);
      share(Checks.floorOf("t;d910;p110/00"), 0, 1, 1, 2);
    });
    Checks.test("ODDS: its own number is none", () -> share(Checks.floorOf("t;p910;p911/00"), 0, 1, 0, 1));
    Checks.test("ODDS: alike a SORT that there is not", () -> {
      FloorType x = Checks.floorOf("t;p912;p915/00");
      share(x, 0, 1, 0, 1);
      share(x, 1, 1, 0, 1);
    });
    Checks.test("ODDS: alike another SORT", () -> {
      FloorType x = Checks.floorOf("t;p911;p912;p310/00");
      share(x, 0, 2, 1, 2);
      share(x, 1, 9, 1, 512);
      share(x, 2, 9, 1, 512);
      share(x, 2, 10, 0, 1);
    });
  }
}
