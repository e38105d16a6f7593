import java.math.BigInteger;
import java.util.ArrayList;
import java.util.Arrays;
import java.util.List;
import java.util.regex.Matcher;
import java.util.regex.Pattern;

/** What the document says, done by plain trial, with nothing of the class's own ways. */
final class Model {
  private static final long LOST = Long.MIN_VALUE;
  private static final Pattern TEXT =
      Pattern.compile("t(;[psd][0-9][1-9][0-5]){2,6}(/([0-5][0-9]|6[0-3])){1,5}");

  /** Bodies as the document tells them: one kind is another one. */
  private class Picking {
    int number, count, seconds, alike;

    int look() {
      return seconds;
    }

    int telling() {
      leave(1);
      return seconds;
    }

    final int pickings() {
      leave(1);
      return seconds;
    }

    int dropped() {
      leave(4);
      return number;
    }

    int kind() {
      return 0;
    }
  }

  private class Sure extends Picking {
    @Override int look() {
      return super.look() + 1;
    }

    @Override int telling() {
      leave(2);
      return super.telling() + 100;
    }

    @Override int kind() {
      return 1;
    }
  }

  private final class Doubtful extends Sure {
    @Override int look() {
      return 2 * super.look();
    }

    @Override int telling() {
      leave(3);
      return super.telling() + pickings();
    }

    @Override int dropped() {
      leave(5);
      return 70;
    }

    @Override int kind() {
      return 2;
    }
  }

  private Object[] sheets = new Object[4];
  private List<Picking> sorts = new ArrayList<>();
  private List<Integer> signs = new ArrayList<>();
  private List<int[]> readings = new ArrayList<>();
  private int trace;
  private int fault;

  private void leave(int number) {
    trace = trace * 31 + number;
  }

  // ---- faults, as the machine has them

  private interface Part {
    long answer();
  }

  /** The order of the machine's own faults is the document's. */
  private long guarded(Part part, boolean asLong) {
    fault = 0;
    try {
      return part.answer();
    } catch (NullPointerException e) {
      fault = 1;
    } catch (ClassCastException | ArrayStoreException e) {
      fault = 2;
    } catch (IndexOutOfBoundsException e) {
      fault = 3;
    } catch (NegativeArraySizeException e) {
      fault = 4;
    }
    return asLong ? LOST : -10 - fault;
  }

  private static boolean sheetIs(int k) {
    return 0 <= k && k <= 3;
  }

  private static boolean laneIs(int lane) {
    return 0 <= lane && lane <= 2;
  }

  private int[] asRow(int k, int lane) {
    Object had = sheets[k];
    if (lane == 0) {
      byte[] row = (byte[]) had;
      int[] out = new int[row.length];
      for (int i = 0; i < out.length; i++) {
        out[i] = row[i];
      }
      return out;
    }
    if (lane == 1) {
      short[] row = (short[]) had;
      int[] out = new int[row.length];
      for (int i = 0; i < out.length; i++) {
        out[i] = row[i];
      }
      return out;
    }
    return ((int[]) had).clone();
  }

  private int[] span(int k, int lane, int i, int n) {
    int[] row = asRow(k, lane);
    int[] out = new int[Math.min(n, 61)];
    System.arraycopy(row, i, out, 0, n);
    return out;
  }

  long sheet(int k, int lane, int n) {
    return guarded(() -> {
      if (!sheetIs(k)) {
        return -1;
      }
      if (!laneIs(lane) || n > 60) {
        return -2;
      }
      sheets[k] = lane == 0 ? new byte[n] : lane == 1 ? (Object) new short[n] : new int[n];
      return 1;
    }, false);
  }

  long lose(int k) {
    if (!sheetIs(k)) {
      return -1;
    }
    int had = sheets[k] == null ? 0 : 1;
    sheets[k] = null;
    return had;
  }

  long put(int k, int i, int v) {
    return guarded(() -> {
      if (!sheetIs(k)) {
        return -1;
      }
      if (sheets[k] instanceof byte[] row) {
        row[i] = (byte) v;
      } else if (sheets[k] instanceof short[] row) {
        row[i] = (short) v;
      } else {
        ((int[]) sheets[k])[i] = v;
      }
      return 1;
    }, false);
  }

  long cell(int k, int i, int lane) {
    return guarded(() -> sheetIs(k) && laneIs(lane) ? asRow(k, lane)[i] : LOST, true);
  }

  long copy(int k, int i, int other, int j, int n) {
    return guarded(() -> {
      if (!sheetIs(k) || !sheetIs(other)) {
        return -1;
      }
      System.arraycopy(sheets[k], i, sheets[other], j, n);
      return n;
    }, false);
  }

  // ---- floor

  long floor(int sheet, int lane, int i, int n) {
    return guarded(() -> {
      if (!sheetIs(sheet)) {
        return -1;
      }
      if (!laneIs(lane)) {
        return -2;
      }
      int[] codes = span(sheet, lane, i, n);
      char[] text = new char[n];
      for (int at = 0; at < n; at++) {
        text[at] = codes[at] >= 1 && codes[at] < 127 ? (char) codes[at] : '?';
      }
      return read(new String(text));
    }, false);
  }

  private long read(String text) {
    if (!TEXT.matcher(text).matches()) {
      int longest = 0;
      for (int length = 1; length <= text.length(); length++) {
        Matcher m = TEXT.matcher(text.substring(0, length));
        if (m.matches() || m.hitEnd()) {
          longest = length;
        }
      }
      return -100 - longest;
    }
    sorts = new ArrayList<>();
    signs = new ArrayList<>();
    readings = new ArrayList<>();
    for (String piece : text.split("(?=[;/])")) {
      if (piece.charAt(0) == ';') {
        addSort(piece);
      } else if (piece.charAt(0) == '/') {
        signs.add(Integer.parseInt(piece.substring(1)));
      }
    }
    return sorts.size();
  }

  private Picking kindOf(char c) {
    return c == 'p' ? new Picking() : c == 's' ? new Sure() : new Doubtful();
  }

  private void addSort(String piece) {
    Picking sort = kindOf(piece.charAt(1));
    sort.number = sorts.size();
    sort.count = piece.charAt(2) - '0';
    sort.seconds = piece.charAt(3) - '0';
    sort.alike = piece.charAt(4) - '0';
    sorts.add(sort);
  }

  private boolean sortIs(int s) {
    return 0 <= s && s < sorts.size();
  }

  private boolean has(int k, int s) {
    return (signs.get(k) >> s & 1) == 1;
  }

  private boolean setIs(int set) {
    return 0 <= set && set < 1 << sorts.size();
  }

  long ofSort(int s, int what) {
    if (!sortIs(s)) {
      return -1;
    }
    Picking sort = sorts.get(s);
    long[] told = {sort.kind(), sort.count, sort.seconds, sort.alike, sort.look()};
    return 0 <= what && what < told.length ? told[what] : -2;
  }

  long ofSign(int k) {
    if (k < 0 || k >= signs.size()) {
      return -1;
    }
    int set = 0;
    for (int s = 0; s < sorts.size(); s++) {
      set += has(k, s) ? 1 << s : 0;
    }
    return set;
  }

  long lay(int s, int v) {
    if (!sortIs(s)) {
      return -1;
    }
    if (v < 0 || v > 9) {
      return -2;
    }
    int was = sorts.get(s).count;
    sorts.get(s).count = v;
    return was;
  }

  long sign(int k, int set) {
    long was = ofSign(k);
    if (was == -1) {
      return -1;
    }
    if (set < 0 || set > 63) {
      return -2;
    }
    signs.set(k, set);
    return was;
  }

  // ---- plans: heaps are really parted

  private List<List<Integer>> oneHeap() {
    List<Integer> all = new ArrayList<>();
    for (int s = 0; s < sorts.size(); s++) {
      all.add(s);
    }
    return new ArrayList<>(List.of(all));
  }

  private List<List<Integer>> part(List<Integer> heap, int k) {
    List<List<Integer>> parts = List.of(new ArrayList<>(), new ArrayList<>());
    for (int s : heap) {
      parts.get(has(k, s) ? 0 : 1).add(s);
    }
    List<List<Integer>> out = new ArrayList<>();
    for (List<Integer> part : parts) {
      if (!part.isEmpty()) {
        out.add(part);
      }
    }
    return out;
  }

  private List<List<Integer>> pass(List<List<Integer>> heaps, int k) {
    List<List<Integer>> out = new ArrayList<>();
    for (List<Integer> heap : heaps) {
      if (heap.size() > 1) {
        out.addAll(part(heap, k));
      } else {
        out.add(heap);
      }
    }
    return out;
  }

  private int lettersSeconds(List<Integer> heap) {
    int sum = 0;
    for (int s : heap) {
      for (int letter = 0; letter < sorts.get(s).count; letter++) {
        sum += sorts.get(s).look();
      }
    }
    return sum;
  }

  private int passSeconds(List<List<Integer>> heaps) {
    int sum = 0;
    for (List<Integer> heap : heaps) {
      sum += heap.size() > 1 ? lettersSeconds(heap) : 0;
    }
    return sum;
  }

  /** Told what: the row that plan() answers from, by 0 .. 3, 10 .. 15, 20 .. 25. */
  private int[] walk(int[] plan) {
    int[] told = new int[26];
    Arrays.fill(told, -9);
    List<List<Integer>> heaps = oneHeap();
    int seconds = 0;
    for (int pass = 0; pass < plan.length; pass++) {
      seconds += passSeconds(heaps);
      List<List<Integer>> then = pass(heaps, plan[pass]);
      if (then.size() == heaps.size() && told[1] == -9) {
        told[1] = pass;
      }
      heaps = then;
      noteReady(told, heaps, seconds);
    }
    told[0] = seconds;
    told[2] = heaps.size();
    told[3] = 0;
    for (List<Integer> heap : heaps) {
      told[3] += heap.size() == 1 ? 1 << heap.get(0) : 0;
      for (int s : heap) {
        told[20 + s] = heap.get(0);
      }
    }
    return told;
  }

  private static void noteReady(int[] told, List<List<Integer>> heaps, int seconds) {
    for (List<Integer> heap : heaps) {
      if (heap.size() == 1 && told[10 + heap.get(0)] == -9) {
        told[10 + heap.get(0)] = seconds;
      }
    }
  }

  private int[] numbers(int sheet, int lane, int i, int n, int below) {
    int[] row = span(sheet, lane, i, n);
    for (int v : row) {
      if (v < 0 || v >= below) {
        return null;
      }
    }
    return row;
  }

  long plan(int sheet, int lane, int i, int n, int what) {
    return guarded(() -> {
      if (!sheetIs(sheet)) {
        return -1;
      }
      boolean asked = 0 <= what && what <= 3 || what / 10 == 1 && what < 16 || what / 10 == 2 && what < 26;
      if (!laneIs(lane) || n < 0 || n > 20 || !asked) {
        return -2;
      }
      if (sorts.isEmpty()) {
        return -3;
      }
      int[] row = numbers(sheet, lane, i, n, signs.size());
      return row == null ? -1 : walk(row)[what];
    }, false);
  }

  long line(int sheet, int lane, int i, int n) {
    return guarded(() -> {
      if (!sheetIs(sheet)) {
        return -1;
      }
      if (!laneIs(lane) || n < 0 || n > 60) {
        return -2;
      }
      if (sorts.isEmpty()) {
        return -3;
      }
      int[] row = numbers(sheet, lane, i, n, sorts.size());
      return row == null ? -1 : firstShort(row);
    }, false);
  }

  private int firstShort(int[] row) {
    int[] left = sorts.stream().mapToInt(sort -> sort.count).toArray();
    for (int at = 0; at < row.length; at++) {
      if (left[row[at]]-- == 0) {
        return at;
      }
    }
    return -9;
  }

  long soon(int set, int sheet, int lane, int i, int n) {
    return guarded(() -> {
      if (!sheetIs(sheet)) {
        return -1;
      }
      if (!laneIs(lane) || n < 0 || n > 20) {
        return -2;
      }
      if (sorts.isEmpty()) {
        return -3;
      }
      if (!setIs(set)) {
        return -2;
      }
      int[] row = numbers(sheet, lane, i, n, signs.size());
      return row == null ? -1 : soonBy(row, set);
    }, false);
  }

  private int soonBy(int[] row, int set) {
    for (int passes = 0; passes <= row.length; passes++) {
      int[] told = walk(Arrays.copyOf(row, passes));
      if ((set & ~told[3]) == 0) {
        return set == 0 ? 0 : told[0];
      }
    }
    return -9;
  }

  // ---- orders, trees: all of them

  private void rows(List<Integer> row, List<List<Integer>> into) {
    into.add(new ArrayList<>(row));
    for (int k = 0; k < signs.size(); k++) {
      if (!row.contains(k)) {
        row.add(k);
        rows(row, into);
        row.remove(row.size() - 1);
      }
    }
  }

  private static int compare(List<Integer> a, List<Integer> b) {
    for (int at = 0; at < Math.min(a.size(), b.size()); at++) {
      if (!a.get(at).equals(b.get(at))) {
        return a.get(at) - b.get(at);
      }
    }
    return a.size() - b.size();
  }

  long order(int k) {
    if (k < -1 || k > 4) {
      return -2;
    }
    if (sorts.isEmpty()) {
      return -3;
    }
    List<List<Integer>> all = new ArrayList<>();
    rows(new ArrayList<>(), all);
    List<Integer> best = null;
    int fewest = Integer.MAX_VALUE;
    for (List<Integer> row : all) {
      int[] told = walk(row.stream().mapToInt(v -> v).toArray());
      boolean ready = told[2] == sorts.size();
      if (ready && (told[0] < fewest || told[0] == fewest && compare(row, best) < 0)) {
        best = row;
        fewest = told[0];
      }
    }
    if (best == null) {
      return -9;
    }
    return k < 0 ? fewest : k < best.size() ? best.get(k) : -9;
  }

  private int treeOf(List<Integer> heap) {
    if (heap.size() < 2) {
      return 0;
    }
    int fewest = Integer.MAX_VALUE;
    for (int k = 0; k < signs.size(); k++) {
      fewest = Math.min(fewest, treeBy(heap, k));
    }
    return fewest;
  }

  private int treeBy(List<Integer> heap, int k) {
    List<List<Integer>> parts = part(heap, k);
    if (parts.size() < 2) {
      return Integer.MAX_VALUE;
    }
    int a = treeOf(parts.get(0));
    int b = treeOf(parts.get(1));
    return a == Integer.MAX_VALUE || b == Integer.MAX_VALUE ? Integer.MAX_VALUE : a + b + lettersSeconds(heap);
  }

  long tree(int what) {
    if (what != 0 && what != 1) {
      return -2;
    }
    if (sorts.isEmpty()) {
      return -3;
    }
    List<Integer> all = oneHeap().get(0);
    int fewest = treeOf(all);
    if (fewest == Integer.MAX_VALUE) {
      return -9;
    }
    if (what == 0) {
      return fewest;
    }
    int k = 0;
    while (treeBy(all, k) != fewest) {
      k++;
    }
    return k;
  }

  // ---- odds, readings

  /** Letter by letter: the shares of all numbers of wrong ones, over 2 to the letters. */
  long odds(int s, int v, int which) {
    if (!sortIs(s) || v < 0 || v > 99 || which < 0 || which > 1) {
      return LOST;
    }
    BigInteger[] ways = new BigInteger[101];
    Arrays.fill(ways, BigInteger.ZERO);
    ways[0] = BigInteger.ONE;
    BigInteger lower = BigInteger.ONE;
    for (Picking sort : sorts) {
      boolean strays = sort.kind() == 0 && sort.number != s && sort.alike == s;
      for (int letter = 0; strays && letter < sort.count; letter++) {
        for (int wrong = 100; wrong > 0; wrong--) {
          ways[wrong] = ways[wrong].add(ways[wrong - 1]);
        }
        lower = lower.shiftLeft(1);
      }
    }
    BigInteger upper = BigInteger.ZERO;
    for (int wrong = v; wrong <= 100; wrong++) {
      upper = upper.add(ways[wrong]);
    }
    BigInteger common = upper.gcd(lower);
    return (which == 0 ? upper : lower).divide(common).longValueExact();
  }

  long reading(int set, int v) {
    if (sorts.isEmpty()) {
      return -3;
    }
    if (!setIs(set) || v < 0 || v > 9999) {
      return -2;
    }
    if (readings.size() == 8) {
      return -4;
    }
    readings.add(new int[] {set, v});
    return readings.size() - 1;
  }

  long back(int k) {
    if (k < 0 || k > readings.size()) {
      return -2;
    }
    for (int taken = 0; taken < k; taken++) {
      readings.remove(readings.size() - 1);
    }
    return readings.size();
  }

  private boolean allSo() {
    for (int[] reading : readings) {
      List<Integer> set = new ArrayList<>();
      for (int s = 0; s < sorts.size(); s++) {
        if ((reading[0] >> s & 1) == 1) {
          set.add(s);
        }
      }
      if (lettersSeconds(set) != reading[1]) {
        return false;
      }
    }
    return true;
  }

  /** Puts another sort in its place, asks, and puts the old one back. */
  private int soWith(int s, char kind, int count, int seconds) {
    Picking was = sorts.get(s);
    Picking other = kindOf(kind);
    other.number = s;
    other.alike = was.alike;
    other.count = count;
    other.seconds = seconds;
    sorts.set(s, other);
    int so = allSo() ? 1 : 0;
    sorts.set(s, was);
    return so;
  }

  private char letterOf(int s) {
    return "psd".charAt(sorts.get(s).kind());
  }

  long counts(int s) {
    if (!sortIs(s)) {
      return -1;
    }
    int set = 0;
    for (int count = 0; count < 10; count++) {
      set |= soWith(s, letterOf(s), count, sorts.get(s).seconds) << count;
    }
    return set;
  }

  long kinds(int s) {
    if (!sortIs(s)) {
      return -1;
    }
    int set = 0;
    for (int kind = 0; kind < 3; kind++) {
      set |= soWith(s, "psd".charAt(kind), sorts.get(s).count, sorts.get(s).seconds) << kind;
    }
    return set;
  }

  long speeds(int s) {
    if (!sortIs(s)) {
      return -1;
    }
    int set = 0;
    for (int seconds = 1; seconds < 10; seconds++) {
      set |= soWith(s, letterOf(s), sorts.get(s).count, seconds) << seconds;
    }
    return set;
  }

  /** For runs that want READINGS that are so: what a set takes now. */
  int takes(int set) {
    int sum = 0;
    for (int s = 0; s < sorts.size(); s++) {
      sum += (set >> s & 1) * sorts.get(s).count * sorts.get(s).look();
    }
    return sum;
  }

  // ---- parts

  long tell(int s) {
    return sortIs(s) ? sorts.get(s).telling() : -1;
  }

  long drop(int s) {
    return sortIs(s) ? sorts.get(s).dropped() : -1;
  }

  long as(int s, int kind) {
    return guarded(() -> {
      if (!sortIs(s)) {
        return -1;
      }
      if (kind < 0 || kind > 2) {
        return -2;
      }
      Picking sort = sorts.get(s);
      Picking taken = kind == 2 ? (Doubtful) sort : kind == 1 ? (Sure) sort : sort;
      return taken == sort ? 1 : 0;
    }, false);
  }

  long trace() {
    return trace;
  }

  long fault() {
    return fault;
  }

  long many(int what) {
    if (what < 0 || what > 3) {
      return -2;
    }
    int letters = 0;
    for (Picking sort : sorts) {
      letters += sort.count;
    }
    return new int[] {sorts.size(), signs.size(), letters, readings.size()}[what];
  }
}
