import java.util.ArrayList;
import java.util.List;
import java.util.function.Supplier;

/**
 * All that calls can tell of a desk: its tales, PRICES, WAYS, COSTS and SOURCES, now and behind each
 * undo, and its sheets. Looking changes a desk and takes calls, so each part is asked of a desk made anew.
 */
final class Portrait {
  private final Supplier<TaleDesk> made;
  private final List<String> lines = new ArrayList<>();

  private Portrait(Supplier<TaleDesk> made) {
    this.made = made;
  }

  static List<String> of(Supplier<TaleDesk> made) {
    Portrait p = new Portrait(made);
    int kept = p.undos();
    for (int back = 0; back <= kept; back++) {
      p.tales(back);
      p.pricesAndWays(back);
      p.costs(back);
      p.sources(back);
    }
    for (int s = 0; s < 4; s++) {
      p.sheet(s);
    }
    return p.lines;
  }

  /** The first line that is not the same in both, or nothing. */
  static String difference(List<String> one, List<String> other) {
    for (int i = 0; i < Math.max(one.size(), other.size()); i++) {
      String here = i < one.size() ? one.get(i) : "nothing";
      String there = i < other.size() ? other.get(i) : "nothing";
      if (!here.equals(there)) {
        return here + " became " + there;
      }
    }
    return "";
  }

  private void line(String what, int answer) {
    lines.add(what + " " + answer);
  }

  private TaleDesk back(int undos) {
    TaleDesk x = made.get();
    for (int i = 0; i < undos; i++) {
      x.undo();
    }
    return x;
  }

  private int undos() {
    TaleDesk x = made.get();
    int kept = 0;
    int left = x.undo();
    while (left >= 0 && kept < 30) {
      line("undo", left);
      kept++;
      left = x.undo();
    }
    return kept;
  }

  private void tales(int undos) {
    TaleDesk x = back(undos);
    int tales = x.all(0);
    line(undos + " undone, tales", tales);
    line(undos + " undone, STEPS", x.all(1));
    for (int tale = 0; tale < tales; tale++) {
      TaleDesk y = back(undos);
      for (int what = 0; what < 6; what++) {
        line(undos + " undone, told " + tale + " " + what, y.told(tale, what));
      }
      for (int i = 0; i < y.told(tale, 3); i++) {
        for (int what = 0; what < 3; what++) {
          line(undos + " undone, of " + tale + " " + i + " " + what, y.of(tale, i, what));
        }
      }
    }
  }

  private void pricesAndWays(int undos) {
    TaleDesk x = back(undos);
    for (int which = 0; which < 3; which++) {
      line(undos + " undone, price " + which, x.price(which, 0));
    }
    for (int place = 0; place < 6; place++) {
      for (int other = place + 1; other < 6; other++) {
        line(undos + " undone, way " + place + " " + other, x.way(place, other, 0));
      }
    }
  }

  private void costs(int undos) {
    TaleDesk x = back(undos);
    int tales = x.all(0);
    for (int a = 0; a < tales; a++) {
      for (int b = 0; b < tales; b++) {
        line(undos + " undone, cost " + a + " " + b, x.cost(a, b));
      }
    }
  }

  /** These alone tell the WAY between a place and itself. */
  private void sources(int undos) {
    TaleDesk x = back(undos);
    int tales = x.all(0);
    for (int tale = 0; tale < tales; tale++) {
      line(undos + " undone, source " + tale, x.source(tale));
      line(undos + " undone, first " + tale, x.first(tale));
    }
  }

  /** A number of a sheet shows only as a motif: those that are none can't be told apart. */
  private void sheet(int s) {
    TaleDesk x = made.get();
    boolean there = x.copy(s, 0, s, 0, 0) == 0;
    line("sheet is there " + s, there ? 1 : 0);
    if (!there) {
      return;
    }
    int t = (s + 1) % 4;
    int[] widths = {8, 16, 32};
    int bits = 0;
    for (int i = 0; i < 3 && bits == 0; i++) {
      x.sheet(t, widths[i], 3);
      bits = x.copy(s, 0, t, 0, 0) == 0 ? widths[i] : 0;
    }
    line("bits of sheet " + s, bits);
    int length = 30;
    while (length > 0 && x.copy(s, 0, s, 0, length) < 0) {
      length--;
    }
    line("numbers of sheet " + s, length);
    if (x.all(0) == 0) {
      x.tale(0, 0, 0);
    }
    for (int i = 0; i < length; i++) {
      x.copy(s, i, t, 0, 1);
      int steps = x.lay(0, t);
      line("number " + i + " of sheet " + s, steps == 1 ? x.of(0, 0, 0) : -1);
    }
  }
}
