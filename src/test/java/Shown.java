import java.util.ArrayList;
import java.util.List;

/** All that an object shows of its state, but for its fault, which asking for cells changes. */
final class Shown {
  private final List<Long> told = new ArrayList<>();

  private Shown() {
  }

  static List<Long> of(FloorType x) {
    Shown shown = new Shown();
    for (int what = 0; what <= 3; what++) {
      shown.told.add((long) x.many(what));
    }
    shown.told.add((long) x.trace());
    shown.sorts(x);
    for (int k = 0; k < 5; k++) {
      shown.told.add((long) x.ofSign(k));
    }
    for (int k = 0; k < 4; k++) {
      shown.sheet(x, k);
    }
    return shown.told;
  }

  private void sorts(FloorType x) {
    for (int s = 0; s < 6; s++) {
      for (int what = 0; what < 5; what++) {
        told.add((long) x.ofSort(s, what));
      }
      told.add((long) x.counts(s));
      told.add((long) x.kinds(s));
      told.add((long) x.speeds(s));
    }
  }

  private void sheet(FloorType x, int k) {
    for (int lane = 0; lane < 3; lane++) {
      int i = 0;
      do {
        told.add(x.cell(k, i, lane));
        i++;
      } while (x.fault() == 0);
      told.add((long) x.fault());
    }
  }
}
