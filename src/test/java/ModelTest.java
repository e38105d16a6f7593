import java.util.Random;

/** Long runs of calls, the class against Model; the seeds are told, so that a wrong run comes again. */
public final class ModelTest {
  private static final int RUNS = 3000, CALLS = 512;
  private static final int[] EDGES = {Integer.MIN_VALUE, Integer.MIN_VALUE + 1, -100, -10, -1, 61, 64, 100, 128,
      9999, 10000, 65536, Integer.MAX_VALUE - 1, Integer.MAX_VALUE};
  private static final String CODES = "t;psd/0123456789";

  private final Random random;
  private final int seed;
  private final FloorType x = new FloorType();
  private final Model model = new Model();
  private int calls = 0;

  private ModelTest(int seed) {
    this.seed = seed;
    this.random = new Random(seed);
  }

  public static void main(String[] args) {
    for (int seed = 0; seed < RUNS; seed++) {
      new ModelTest(seed).run();
    }
    Checks.end("ModelTest");
  }

  private void run() {
    int early = random.nextInt(12);
    for (int c = 0; c < early; c++) {
      call();
    }
    while (calls < CALLS) {
      int what = random.nextInt(60);
      if (what == 0 || model.many(0) == 0 && what < 30) {
        text();
      } else if (what == 1) {
        rowOfNumbers();
      } else if (what == 2) {
        trueReadings();
      } else {
        call();
      }
    }
  }

  private void same(String call, long got, long want) {
    calls++;
    Checks.due("seed " + seed + " call " + calls + " " + call, got, want);
  }

  /** Mostly 0 .. most, sometimes a little beyond, seldom far off. */
  private int number(int most) {
    int how = random.nextInt(40);
    if (how == 0) {
      return EDGES[random.nextInt(EDGES.length)];
    }
    return how < 3 ? random.nextInt(most + 4) - 2 : random.nextInt(most + 1);
  }

  private void lay(int k, int lane, int[] cells, int spare) {
    same("sheet", x.sheet(k, lane, cells.length + spare), model.sheet(k, lane, cells.length + spare));
    for (int i = 0; i < cells.length; i++) {
      same("put", x.put(k, i, cells[i]), model.put(k, i, cells[i]));
    }
  }

  private void text() {
    String text = wholeText();
    int how = random.nextInt(6);
    if (how == 0) {
      text = text.substring(0, random.nextInt(text.length() + 1));
    } else if (how == 1) {
      int at = random.nextInt(text.length());
      text = text.substring(0, at) + CODES.charAt(random.nextInt(CODES.length())) + text.substring(at + 1);
    } else if (how == 2) {
      text = text + CODES.charAt(random.nextInt(CODES.length()));
    }
    int k = random.nextInt(4);
    int lane = random.nextInt(3);
    lay(k, lane, text.chars().toArray(), 0);
    same("floor of " + text, x.floor(k, lane, 0, text.length()), model.floor(k, lane, 0, text.length()));
    for (int s = 0; s < 6; s++) {
      for (int what = 0; what < 5; what++) {
        same("ofSort", x.ofSort(s, what), model.ofSort(s, what));
      }
    }
    for (int sign = 0; sign < 5; sign++) {
      same("ofSign", x.ofSign(sign), model.ofSign(sign));
    }
  }

  private String wholeText() {
    StringBuilder text = new StringBuilder("t");
    int sorts = 2 + random.nextInt(5);
    int mostLetters = random.nextInt(4) == 0 ? 2 : 10;
    int mostSeconds = random.nextInt(4) == 0 ? 1 : 9;
    for (int s = 0; s < sorts; s++) {
      text.append(';').append("psdp".charAt(random.nextInt(4))).append(random.nextInt(mostLetters))
          .append(1 + random.nextInt(mostSeconds)).append(random.nextInt(6));
    }
    int signs = 1 + random.nextInt(random.nextInt(3) == 0 ? 5 : 3) + random.nextInt(2);
    for (int k = 0; k < Math.min(signs, 5); k++) {
      int set = random.nextInt(64);
      text.append('/').append(set / 10).append(set % 10);
    }
    return text.toString();
  }

  private void rowOfNumbers() {
    int[] cells = new int[1 + random.nextInt(24)];
    int below = Math.max(1, (int) model.many(random.nextInt(2)));
    for (int i = 0; i < cells.length; i++) {
      cells[i] = random.nextInt(30) == 0 ? number(6) : random.nextInt(below);
    }
    int k = random.nextInt(4);
    int lane = random.nextInt(3);
    lay(k, lane, cells, random.nextInt(4));
    for (int c = 0; c < 30; c++) {
      int i = random.nextInt(cells.length);
      planned(k, lane, i, random.nextInt(cells.length - i + 2));
    }
  }

  private void planned(int k, int lane, int i, int n) {
    switch (random.nextInt(3)) {
      case 0 -> {
        int what = random.nextInt(4) + 10 * random.nextInt(3) + random.nextInt(3);
        same("plan " + what, x.plan(k, lane, i, n, what), model.plan(k, lane, i, n, what));
      }
      case 1 -> same("line", x.line(k, lane, i, n), model.line(k, lane, i, n));
      default -> {
        int set = random.nextInt(3) == 0 ? random.nextInt(64) : 1 << random.nextInt(6);
        same("soon " + set, x.soon(set, k, lane, i, n), model.soon(set, k, lane, i, n));
      }
    }
  }

  private void trueReadings() {
    back(random.nextInt(3) == 0 ? number(8) : (int) model.many(3));
    for (int r = random.nextInt(3); r >= 0; r--) {
      int set = random.nextInt(1 << (int) model.many(0));
      int v = model.takes(set) + (random.nextInt(6) == 0 ? random.nextInt(9) - 4 : 0);
      same("reading", x.reading(set, v), model.reading(set, v));
    }
    for (int s = 0; s < 6; s++) {
      same("counts", x.counts(s), model.counts(s));
      same("kinds", x.kinds(s), model.kinds(s));
      same("speeds", x.speeds(s), model.speeds(s));
    }
  }

  private void back(int k) {
    same("back", x.back(k), model.back(k));
  }

  private void call() {
    int which = random.nextInt(27);
    if (which < 13) {
      callOfFloor(which);
    } else {
      callOfSheets(which);
    }
    same("fault", x.fault(), model.fault());
  }

  private void callOfFloor(int which) {
    int a = number(6);
    int b = number(9);
    switch (which) {
      case 0 -> same("ofSort", x.ofSort(a, b), model.ofSort(a, b));
      case 1 -> same("ofSign", x.ofSign(a), model.ofSign(a));
      case 2 -> same("lay", x.lay(a, b), model.lay(a, b));
      case 3 -> {
        int set = number(63);
        same("sign", x.sign(a, set), model.sign(a, set));
      }
      case 4, 5 -> {
        int k = number(6) - 1;
        same("order " + k, x.order(k), model.order(k));
      }
      case 6 -> {
        int what = random.nextInt(4) == 0 ? number(3) : random.nextInt(2);
        same("tree " + what, x.tree(what), model.tree(what));
      }
      case 7 -> {
        int v = number(random.nextInt(2) == 0 ? 9 : 50);
        int part = number(1);
        same("odds " + a + " " + v, x.odds(a, v, part), model.odds(a, v, part));
      }
      case 8 -> {
        int set = number(63);
        int v = number(80);
        same("reading", x.reading(set, v), model.reading(set, v));
      }
      case 9 -> back(number(3));
      case 10 -> same("counts", x.counts(a), model.counts(a));
      case 11 -> same("kinds", x.kinds(a), model.kinds(a));
      default -> same("speeds", x.speeds(a), model.speeds(a));
    }
  }

  private void callOfSheets(int which) {
    int k = number(3);
    int i = number(20);
    int lane = number(2);
    int n = number(20);
    switch (which) {
      case 13 -> same("floor", x.floor(k, lane, i, n), model.floor(k, lane, i, n));
      case 14 -> {
        int what = number(26);
        same("plan", x.plan(k, lane, i, n, what), model.plan(k, lane, i, n, what));
      }
      case 15 -> same("line", x.line(k, lane, i, n), model.line(k, lane, i, n));
      case 16 -> {
        int set = number(63);
        same("soon", x.soon(set, k, lane, i, n), model.soon(set, k, lane, i, n));
      }
      case 17 -> {
        int length = number(60);
        same("sheet", x.sheet(k, lane, length), model.sheet(k, lane, length));
      }
      case 18 -> {
        if (random.nextInt(4) == 0) {
          same("lose", x.lose(k), model.lose(k));
        }
      }
      case 19 -> {
        int v = random.nextBoolean() ? number(300) : random.nextInt();
        same("put", x.put(k, i, v), model.put(k, i, v));
      }
      case 20 -> same("cell", x.cell(k, i, lane), model.cell(k, i, lane));
      case 21 -> {
        int other = random.nextInt(2) == 0 ? k : number(3);
        int j = number(20);
        same("copy", x.copy(k, i, other, j, n), model.copy(k, i, other, j, n));
      }
      case 22 -> same("tell", x.tell(i % 7), model.tell(i % 7));
      case 23 -> same("drop", x.drop(i % 7), model.drop(i % 7));
      case 24 -> same("as", x.as(i % 7, lane), model.as(i % 7, lane));
      case 25 -> same("trace", x.trace(), model.trace());
      default -> same("many", x.many(lane + 1), model.many(lane + 1));
    }
  }
}
