import java.util.function.IntUnaryOperator;

/** The boundary cases of a TEXT (promise 2): each sentence that names one has a test of its own. */
public final class TextEdgesTest {
  private static final int INDEX = -13;
  private static final int LOW = Integer.MIN_VALUE, HIGH = Integer.MAX_VALUE;
  /** Two SORTS, one SIGN: the shortest TEXT, 14 codes. */
  private static final String SHORTEST = "t;p521;s110/05";
  /** Six SORTS, five SIGNS: the longest TEXT, 46 codes. */
  private static final String LONGEST = "t;p110;p110;s095;d110;p990;p110/00/63/59/60/09";

  public static void main(String[] args) {
    codes();
    digits();
    twoDigits();
    codesFarOff();
    howMany();
    endsTooSoon();
    oneCodeMore();
    spans();
    taken();
    Checks.end("TextEdgesTest");
  }

  private static int floorOf(int lane, int... codes) {
    FloorType x = new FloorType();
    Checks.rowOf(x, 1, lane, codes);
    return x.floor(1, lane, 0, codes.length);
  }

  private static int floorOf(String text) {
    return floorOf(2, text.chars().toArray());
  }

  /** The shortest TEXT with one code changed: what is due for each of the codes. */
  private static void at(int place, int want, int... codes) {
    for (int code : codes) {
      int[] text = SHORTEST.chars().toArray();
      text[place] = code;
      Checks.due("code " + code + " at " + place, floorOf(2, text), want);
    }
  }

  private static void codes() {
    Checks.test("t is 116", () -> {
      at(0, 2, 116);
      at(0, -100, 115, 117, 'T', 0);
    });
    Checks.test("the ; of the first SORT is 59", () -> {
      at(1, 2, 59);
      at(1, -101, 58, 60, 47);
    });
    Checks.test("the ; of the second SORT is 59", () -> {
      at(6, 2, 59);
      at(6, -106, 58, 60, 47);
    });
    Checks.test("kinds are p 112, s 115, d 100", () -> {
      at(2, 2, 112, 115, 100);
      at(2, -102, 99, 101, 111, 113, 114, 116, 'P', 'S', 'D');
    });
    Checks.test("kinds of the second SORT, too", () -> {
      at(7, 2, 112, 115, 100);
      at(7, -107, 99, 101, 111, 113, 114, 116);
    });
    Checks.test("the / of the first SIGN is 47", () -> {
      at(11, 2, 47);
      at(11, -111, 46, 48);
    });
  }

  private static void digits() {
    Checks.test("COUNT is a digit 0 .. 9", () -> {
      at(3, 2, '0', '1', '8', '9');
      at(3, -103, 47, 58);
    });
    Checks.test("SECONDS are a digit 1 .. 9", () -> {
      at(4, 2, '1', '2', '8', '9');
      at(4, -104, '0', 47, 58);
    });
    Checks.test("ALIKE is a digit 0 .. 5", () -> {
      at(5, 2, '0', '1', '4', '5');
      at(5, -105, '6', '9', 47, 58);
    });
    Checks.test("digits of the second SORT, too", () -> {
      at(8, 2, '0', '9');
      at(8, -108, 47, 58);
      at(9, 2, '1', '9');
      at(9, -109, '0', 58);
      at(10, 2, '0', '5');
      at(10, -110, '6', 47);
    });
    Checks.test("ALIKE: be there a SORT of that number or not, its own too", () -> {
      FloorType x = Checks.floorOf("t;p112;p115;p112/01");
      Checks.due("the last of three", x.ofSort(0, 3), 2);
      Checks.due("no such SORT", x.ofSort(1, 3), 5);
      Checks.due("its own", x.ofSort(2, 3), 2);
    });
  }

  private static void twoDigits() {
    Checks.test("two digits: the first one is 0 .. 6", () -> {
      at(12, 2, '0', '1', '5');
      at(12, -112, '7', '8', '9', 47, 58);
    });
    Checks.test("two digits: behind a first 0 .. 5 the second is 0 .. 9", () -> {
      for (char first = '0'; first <= '5'; first++) {
        String begin = "t;p521;s110/" + first;
        Checks.due("0", floorOf(begin + '0'), 2);
        Checks.due("9", floorOf(begin + '9'), 2);
        Checks.due("/", floorOf(begin + '/'), -113);
        Checks.due(":", floorOf(begin + ':'), -113);
      }
    });
    Checks.test("two digits: behind a first 6 the second is 0 .. 3, 64 is none", () -> {
      String begin = "t;p521;s110/6";
      Checks.due("60", floorOf(begin + '0'), 2);
      Checks.due("63", floorOf(begin + '3'), 2);
      Checks.due("64", floorOf(begin + '4'), -113);
      Checks.due("69", floorOf(begin + '9'), -113);
      Checks.due("6/", floorOf(begin + '/'), -113);
    });
    Checks.test("two digits: 70 and 99 have their FIRST FAULT at the first one", () -> {
      Checks.due("70", floorOf("t;p521;s110/70"), -112);
      Checks.due("99", floorOf("t;p521;s110/99"), -112);
    });
    Checks.test("two digits of the fifth SIGN, too", () -> {
      String begin = "t;p521;s110/00/00/00/00/";
      Checks.due("63", floorOf(begin + "63"), 2);
      Checks.due("64", floorOf(begin + "64"), -125);
      Checks.due("70", floorOf(begin + "70"), -124);
    });
    Checks.test("sets 00 and 63, with SORTS that there are not", () -> {
      FloorType x = Checks.floorOf("t;p521;s110/00/63/60/03");
      Checks.due("00", x.ofSign(0), 0);
      Checks.due("63", x.ofSign(1), 3);
      Checks.due("60", x.ofSign(2), 0);
      Checks.due("03", x.ofSign(3), 3);
      FloorType y = Checks.floorOf(LONGEST);
      Checks.due("63 of six", y.ofSign(1), 63);
      Checks.due("60 of six", y.ofSign(3), 60);
    });
  }

  /** Each place of the shortest TEXT with its code changed. */
  private static void eachPlace(IntUnaryOperator change, int lane, boolean taken) {
    for (int place = 0; place < SHORTEST.length(); place++) {
      int[] text = SHORTEST.chars().toArray();
      text[place] = change.applyAsInt(text[place]);
      Checks.due("place " + place, floorOf(lane, text), taken ? 2 : -100 - place);
    }
  }

  private static void codesFarOff() {
    Checks.test("ints: a code and 256 or 65536 is no code", () -> {
      eachPlace(code -> code + 256, 2, false);
      eachPlace(code -> code + 65536, 2, false);
      eachPlace(code -> code | LOW, 2, false);
    });
    Checks.test("ints: numbers below 0, the least and the greatest are no codes", () -> {
      eachPlace(code -> -code, 2, false);
      eachPlace(code -> LOW, 2, false);
      eachPlace(code -> HIGH, 2, false);
      eachPlace(code -> -1, 2, false);
      eachPlace(code -> 0, 2, false);
    });
    Checks.test("shorts: cut to their LANE as they come to it", () -> {
      eachPlace(code -> code + 65536, 1, true);
      eachPlace(code -> code + 256, 1, false);
    });
    Checks.test("bytes: cut to their LANE as they come to it", () -> {
      eachPlace(code -> code + 65536, 0, true);
      eachPlace(code -> code + 256, 0, true);
      eachPlace(code -> code + 128, 0, false);
    });
  }

  private static String textOf(int sorts, int signs) {
    return "t" + ";p111".repeat(sorts) + "/01".repeat(signs);
  }

  private static void howMany() {
    Checks.test("2 to 6 SORTS, 1 to 5 SIGNS are taken", () -> {
      for (int sorts = 2; sorts <= 6; sorts++) {
        for (int signs = 1; signs <= 5; signs++) {
          FloorType x = new FloorType();
          Checks.due(sorts + " SORTS", Checks.read(x, textOf(sorts, signs)), sorts);
          Checks.due("SORTS", x.many(0), sorts);
          Checks.due("SIGNS", x.many(1), signs);
        }
      }
    });
    Checks.test("no SORT is too few: FIRST FAULT at what stands for its ;", () ->
        Checks.due("none", floorOf(textOf(0, 1)), -101));
    Checks.test("one SORT is too few: FIRST FAULT at the / of the SIGN", () ->
        Checks.due("one", floorOf(textOf(1, 1)), -106));
    Checks.test("the ; of a seventh SORT", () -> {
      Checks.due("seven", floorOf(textOf(7, 1)), -131);
      Checks.due("eight", floorOf(textOf(8, 1)), -131);
      Checks.due("its ; alone", floorOf(textOf(6, 0) + ";"), -131);
    });
    Checks.test("no SIGN is too few", () -> {
      Checks.due("two SORTS, then another code", floorOf(textOf(2, 0) + "t"), -111);
      Checks.due("six SORTS, then another code", floorOf(textOf(6, 0) + "t"), -131);
    });
    Checks.test("the / of a sixth SIGN", () -> {
      Checks.due("two SORTS", floorOf(textOf(2, 6)), -126);
      Checks.due("six SORTS", floorOf(textOf(6, 6)), -146);
      Checks.due("its / alone", floorOf(textOf(6, 5) + "/"), -146);
    });
    Checks.test("a SORT behind a SIGN is none", () -> {
      Checks.due("behind one", floorOf(textOf(2, 1) + ";p111"), -114);
      Checks.due("behind five", floorOf(textOf(2, 5) + ";p111"), -126);
    });
  }

  private static void endsTooSoon() {
    Checks.test("a TEXT that just ends too soon: how many codes there are", () -> {
      for (int n = 0; n < SHORTEST.length(); n++) {
        Checks.due(n + " codes", floorOf(SHORTEST.substring(0, n)), -100 - n);
      }
    });
    Checks.test("the longest one ends too soon but behind a whole SIGN", () -> {
      for (int n = 0; n <= LONGEST.length(); n++) {
        boolean whole = n > 31 && (n - 31) % 3 == 0;
        Checks.due(n + " codes", floorOf(LONGEST.substring(0, n)), whole ? 6 : -100 - n);
      }
    });
    Checks.test("it ends by n, whatever lies behind", () -> {
      FloorType x = new FloorType();
      Checks.row(x, 1, LONGEST.chars().toArray());
      Checks.due("n 33", x.floor(1, 2, 0, 33), -133);
      Checks.due("n 34", x.floor(1, 2, 0, 34), 6);
      Checks.due("SIGNS", x.many(1), 1);
    });
    Checks.test("it ends too soon behind an empty row", () -> {
      FloorType x = new FloorType();
      x.sheet(1, 2, 0);
      Checks.due("empty", x.floor(1, 2, 0, 0), -100);
    });
  }

  private static void oneCodeMore() {
    Checks.test("a code behind 1 .. 5 SIGNS with which no TEXT goes on", () -> {
      for (int signs = 1; signs <= 5; signs++) {
        for (char more : new char[] {'t', ';', 'p', '0', ' ', 0}) {
          Checks.due(signs + " and " + (int) more, floorOf(textOf(2, signs) + more), -111 - 3 * signs);
        }
      }
    });
    Checks.test("only the first FAULT of two is told", () -> {
      Checks.due("t and kind", floorOf("u;q521;s110/05"), -100);
      Checks.due("COUNT and SIGN", floorOf("t;px21;s110/99"), -103);
      Checks.due("first and second digit", floorOf("t;p521;s110/7:"), -112);
    });
  }

  private static void spans() {
    Checks.test("the longest TEXT in the last cells of a SHEET of 60", () -> {
      FloorType x = new FloorType();
      int[] cells = new int[60];
      System.arraycopy(LONGEST.chars().toArray(), 0, cells, 14, 46);
      Checks.row(x, 1, cells);
      Checks.due("from 14 on", x.floor(1, 2, 14, 46), 6);
      Checks.due("one too far", x.floor(1, 2, 15, 46), INDEX);
      Checks.due("one too many", x.floor(1, 2, 14, 47), INDEX);
      Checks.due("from 13 on", x.floor(1, 2, 13, 47), -100);
    });
    Checks.test("FIRST FAULT is counted from i on", () -> {
      FloorType x = new FloorType();
      Checks.row(x, 1, ("ttt" + SHORTEST.substring(0, 12) + "99").chars().toArray());
      Checks.due("from 3 on", x.floor(1, 2, 3, 14), -112);
      Checks.due("from 2 on", x.floor(1, 2, 2, 14), -101);
    });
    Checks.test("no cells: i may be 0 .. how many there are", () -> {
      FloorType x = new FloorType();
      x.sheet(1, 0, 60);
      Checks.due("at the begin", x.floor(1, 0, 0, 0), -100);
      Checks.due("at the end", x.floor(1, 0, 60, 0), -100);
      Checks.due("behind the end", x.floor(1, 0, 61, 0), INDEX);
      Checks.due("ahead of the begin", x.floor(1, 0, -1, 0), INDEX);
      Checks.due("least", x.floor(1, 0, LOW, 0), INDEX);
      Checks.due("greatest", x.floor(1, 0, HIGH, 0), INDEX);
    });
    Checks.test("i and n together wrap around: INDEX", () -> {
      FloorType x = new FloorType();
      x.sheet(1, 0, 60);
      Checks.due("1 and the greatest", x.floor(1, 0, 1, HIGH), INDEX);
      Checks.due("twice the greatest", x.floor(1, 0, HIGH, HIGH), INDEX);
      Checks.due("the least and the greatest", x.floor(1, 0, LOW, HIGH), INDEX);
    });
    Checks.test("SHEETS 0 and 3, each LANE", () -> {
      for (int k = 0; k < 4; k++) {
        for (int lane = 0; lane < 3; lane++) {
          FloorType x = new FloorType();
          Checks.rowOf(x, k, lane, SHORTEST.chars().toArray());
          Checks.due("SHEET " + k + " LANE " + lane, x.floor(k, lane, 0, 14), 2);
          Checks.due("fault", x.fault(), 0);
        }
      }
    });
  }

  private static void taken() {
    Checks.test("all anew: COUNT and SIGN as the TEXT has them", () -> {
      FloorType x = Checks.floorOf(SHORTEST);
      x.lay(0, 9);
      x.sign(0, 2);
      Checks.due("the same TEXT", x.floor(0, 2, 0, 14), 2);
      Checks.due("COUNT", x.ofSort(0, 1), 5);
      Checks.due("SIGN", x.ofSign(0), 1);
    });
    Checks.test("all anew: what the longest FLOOR had more is gone", () -> {
      FloorType x = Checks.floorOf(LONGEST);
      Checks.due("the shortest", Checks.read(x, SHORTEST), 2);
      Checks.due("SORT 1", x.ofSort(1, 0), 1);
      Checks.due("SORT 2", x.ofSort(2, 0), -1);
      Checks.due("SIGN 1", x.ofSign(1), -1);
      Checks.due("letters", x.many(2), 6);
      Checks.due("and back", Checks.read(x, LONGEST), 6);
      Checks.due("SIGN 1", x.ofSign(1), 63);
    });
    Checks.test("all anew: no READINGS, were there eight", () -> {
      FloorType x = Checks.floorOf(SHORTEST);
      for (int r = 0; r < 8; r++) {
        x.reading(1, 9999);
      }
      x.floor(0, 2, 0, 14);
      Checks.due("READINGS", x.many(3), 0);
      Checks.due("COUNTS", x.counts(0), 1023);
      Checks.due("back", x.back(1), -2);
      Checks.due("the first again", x.reading(1, 10), 0);
    });
    Checks.test("but for the SHEETS and TRACE", () -> {
      FloorType x = Checks.floorOf(SHORTEST);
      Checks.rowOf(x, 3, 0, 7, -8);
      x.drop(0);
      x.floor(0, 2, 0, 14);
      Checks.due("TRACE", x.trace(), 4);
      Checks.due("SHEET 3", x.cell(3, 1, 0), -8);
      Checks.due("SHEET of the TEXT", x.cell(0, 13, 2), '5');
      Checks.due("SHEET that has nothing", x.lose(2), 0);
    });
    Checks.test("a TEXT's SHEET may change or go: the FLOOR stays", () -> {
      FloorType x = Checks.floorOf(SHORTEST);
      x.put(0, 2, 'd');
      Checks.due("kind", x.ofSort(0, 0), 0);
      x.lose(0);
      Checks.due("SORTS", x.many(0), 2);
    });
  }
}
