import java.util.function.ToIntFunction;

/** Promises 27 to 32, sentence by sentence: SHEETS, laying STEPS from them, undo, and the counts of all. */
public final class SheetsTest extends Sentences {
  private static final int[] WIDTHS = {8, 16, 32};
  private static final int[] NO_WIDTHS =
      {-1, 1, 7, 9, 15, 17, 24, 31, 33, 64, -8, -16, -32, Integer.MIN_VALUE, Integer.MAX_VALUE};

  /** A desk with one tale, into which sheets can be laid. */
  private static TaleDesk withATale() {
    TaleDesk x = new TaleDesk();
    x.tale(TALE, 0, 0);
    return x;
  }

  // ---- promise 27: sheet

  static void sheetHasNumbers() {
    sentence("27", "A sheet has n numbers, all 0, of 8, 16 or 32 bits;");
    for (int bits : WIDTHS) {
      for (int s = 0; s < 4; s++) {
        TaleDesk x = withATale();
        due("thirty", x.sheet(s, bits, 30), 30);
        due("the last of thirty", x.put(s, 29, 0), 0);
        due("none behind it", x.put(s, 30, 0), BEYOND);
        due("one", x.sheet(s, bits, 1), 1);
        due("the only one", x.put(s, 0, 0), 0);
        due("none behind it", x.put(s, 1, 0), BEYOND);
        due("none at all", x.sheet(s, bits, 0), 0);
        due("none at all is not MISSING", x.put(s, 0, 0), BEYOND);
        due("none at all is laid", x.lay(0, s), 0);
      }
    }
  }

  static void sheetIsAllZero() {
    sentence("27", "A sheet has n numbers, all 0, of 8, 16 or 32 bits;");
    for (int bits : WIDTHS) {
      TaleDesk x = withATale();
      x.sheet(0, bits, 30);
      for (int i = 0; i < 30; i++) {
        x.put(0, i, 3);
      }
      x.lay(0, 0);
      dueSteps("threes", x, 0, 3, 3, 3, 3, 3, 3, 3, 3, 3, 3, 3, 3, 3, 3, 3, 3, 3, 3, 3, 3, 3, 3, 3, 3, 3, 3, 3, 3, 3, 3);
      x.sheet(0, bits, 3);
      x.sheet(0, bits, 30);
      x.lay(0, 0);
      dueSteps("made anew", x, 0, new int[30]);
    }
  }

  static void sheetIsMissing() {
    sentence("27", "bits 0: it is MISSING: n (0).");
    for (int s = 0; s < 4; s++) {
      TaleDesk x = withATale();
      due("one that is MISSING already", x.sheet(s, 0, 0), 0);
      x.sheet(s, 8, 4);
      due("one that was there", x.sheet(s, 0, 0), 0);
      due("put", x.put(s, 0, 0), MISSING);
      due("lay", x.lay(0, s), MISSING);
      due("copy", x.copy(s, 0, s, 0, 0), MISSING);
      due("there again", x.sheet(s, 8, 4), 4);
      due("with n beside bits 0 it has 0 all the same", x.sheet(s, 0, 4), 0);
      due("and is MISSING", x.put(s, 0, 0), MISSING);
      x.sheet((s + 1) % 4, 8, 1);
      x.sheet(s, 0, 0);
      due("another sheet stays", x.put((s + 1) % 4, 0, 0), 0);
    }
  }

  static void sheetBeyond() {
    sentence("27", "BEYOND: no such sheet, or bits.");
    TaleDesk x = new TaleDesk();
    for (int wrong : outside(0, 3)) {
      due("sheet " + wrong, x.sheet(wrong, 8, 1), BEYOND);
      due("sheet " + wrong + ", MISSING", x.sheet(wrong, 0, 0), BEYOND);
    }
    for (int bits : NO_WIDTHS) {
      due("bits " + bits, x.sheet(0, bits, 1), BEYOND);
    }
  }

  static void sheetSize() {
    sentence("27", "SIZE: n is below 0.");
    TaleDesk x = new TaleDesk();
    for (int bits : new int[] {0, 8, 16, 32}) {
      due("n -1 of " + bits + " bits", x.sheet(0, bits, -1), SIZE);
      due("the least n of " + bits + " bits", x.sheet(0, bits, Integer.MIN_VALUE), SIZE);
    }
  }

  static void sheetTooLong() {
    sentence("27", "BEYOND: n is above 30.");
    TaleDesk x = new TaleDesk();
    for (int bits : new int[] {0, 8, 16, 32}) {
      due("n 31 of " + bits + " bits", x.sheet(0, bits, 31), BEYOND);
      due("the greatest n of " + bits + " bits", x.sheet(0, bits, Integer.MAX_VALUE), BEYOND);
    }
  }

  // ---- promise 28: put

  static void putBecomes() {
    sentence("28", "Number i of a sheet becomes v (its lowest bits): 0.");
    TaleDesk x = withATale();
    x.sheet(0, 8, 30);
    x.sheet(1, 8, 30);
    due("the first", x.put(0, 0, 15), 0);
    due("the last", x.put(0, 29, 3), 0);
    due("once more", x.put(0, 0, 14), 0);
    x.lay(0, 0);
    due("the first", x.of(0, 0, 0), 14);
    due("one between", x.of(0, 4, 0), 0);
    due("the last", x.of(0, 9, 2), 3);
    x.lay(0, 1);
    dueSteps("another sheet stays", x, 0, new int[30]);
  }

  /** What a sheet of so many bits makes of a number, as a motif: -1 if that is no motif. */
  private static int asMotif(int bits, int v) {
    TaleDesk x = withATale();
    write(x, 0, bits, v, 0, 0);
    return x.lay(0, 0) == 1 ? x.of(0, 0, 0) : -1;
  }

  static void putTakesTheLowestBits() {
    sentence("28", "Number i of a sheet becomes v (its lowest bits): 0.");
    int[] values = {15, 16, 255, 256, 256 + 15, -256, -241, -1, 65535, 65536, 65536 + 9, -65536, -65527,
      Integer.MIN_VALUE, Integer.MIN_VALUE + 5, Integer.MAX_VALUE};
    int[] of8 = {15, -1, -1, 0, 15, 0, 15, -1, -1, 0, 9, 0, 9, 0, 5, -1};
    int[] of16 = {15, -1, -1, -1, -1, -1, -1, -1, -1, 0, 9, 0, 9, 0, 5, -1};
    for (int i = 0; i < values.length; i++) {
      due("8 bits of " + values[i], asMotif(8, values[i]), of8[i]);
      due("16 bits of " + values[i], asMotif(16, values[i]), of16[i]);
      due("32 bits of " + values[i], asMotif(32, values[i]), i == 0 ? 15 : -1);
    }
  }

  static void putBeyondTheSheets() {
    sentence("28", "BEYOND: no such sheet.");
    TaleDesk x = new TaleDesk();
    for (int s = 0; s < 4; s++) {
      x.sheet(s, 8, 1);
    }
    for (int wrong : outside(0, 3)) {
      due("sheet " + wrong, x.put(wrong, 0, 0), BEYOND);
    }
  }

  static void putMissing() {
    sentence("28", "MISSING.");
    TaleDesk x = new TaleDesk();
    x.sheet(1, 8, 1);
    x.sheet(2, 8, 1);
    x.sheet(2, 0, 0);
    due("at first", x.put(0, 0, 0), MISSING);
    due("made MISSING", x.put(2, 0, 0), MISSING);
    due("one that is there", x.put(1, 0, 0), 0);
  }

  static void putBeyondTheNumbers() {
    sentence("28", "BEYOND: no such number.");
    TaleDesk x = new TaleDesk();
    for (int n : new int[] {1, 2, 29, 30}) {
      x.sheet(0, 16, n);
      due("the last of " + n, x.put(0, n - 1, 0), 0);
      for (int wrong : outside(0, n - 1)) {
        due("number " + wrong + " of " + n, x.put(0, wrong, 0), BEYOND);
      }
    }
    x.sheet(0, 16, 0);
    due("number 0 of none", x.put(0, 0, 0), BEYOND);
  }

  // ---- promise 29: copy

  /** A sheet's numbers must be these, which lay tells. */
  private static void dueNumbers(String what, TaleDesk x, int s, int... numbers) {
    x.lay(0, s);
    dueSteps(what, x, 0, numbers);
  }

  static void copyComesToAnother() {
    sentence("29", "n numbers of a sheet from one on come to another one from one on: n.");
    for (int bits : WIDTHS) {
      TaleDesk x = withATale();
      write(x, 0, bits, 9, 0, 1, 10, 1, 2, 11, 2, 3);
      write(x, 1, bits, 4, 1, 1, 5, 1, 1, 6, 1, 1);
      due("three", x.copy(0, 6, 1, 3, 3), 3);
      dueNumbers("to", x, 1, 4, 1, 1, 11, 2, 3, 6, 1, 1);
      dueNumbers("from", x, 0, 9, 0, 1, 10, 1, 2, 11, 2, 3);
      due("all", x.copy(0, 0, 1, 0, 9), 9);
      dueNumbers("to", x, 1, 9, 0, 1, 10, 1, 2, 11, 2, 3);
      due("none", x.copy(1, 0, 0, 6, 0), 0);
      dueNumbers("stays", x, 0, 9, 0, 1, 10, 1, 2, 11, 2, 3);
      due("one", x.copy(1, 8, 0, 1, 1), 1);
      dueNumbers("to", x, 0, 9, 3, 1, 10, 1, 2, 11, 2, 3);
    }
  }

  static void copyThirty() {
    sentence("29", "n numbers of a sheet from one on come to another one from one on: n.");
    TaleDesk x = withATale();
    x.sheet(2, 8, 30);
    x.sheet(3, 8, 30);
    for (int i = 0; i < 30; i++) {
      x.put(2, i, i % 4);
    }
    due("thirty", x.copy(2, 0, 3, 0, 30), 30);
    x.lay(0, 3);
    for (int i = 0; i < 30; i++) {
      due("number " + i, x.of(0, i / 3, i % 3), i % 4);
    }
  }

  static void copyOntoItself() {
    sentence("29", "n numbers of a sheet from one on come to another one from one on: n.");
    TaleDesk x = withATale();
    write(x, 0, 8, 9, 0, 1, 10, 1, 2, 11, 2, 3);
    due("onto the same place", x.copy(0, 0, 0, 0, 9), 9);
    dueNumbers("stays", x, 0, 9, 0, 1, 10, 1, 2, 11, 2, 3);
    due("upward", x.copy(0, 0, 0, 3, 6), 6);
    dueNumbers("as they were", x, 0, 9, 0, 1, 9, 0, 1, 10, 1, 2);
    due("downward", x.copy(0, 3, 0, 0, 6), 6);
    dueNumbers("as they were", x, 0, 9, 0, 1, 10, 1, 2, 10, 1, 2);
  }

  static void copyBeyondTheSheets() {
    sentence("29", "BEYOND: no such sheet (either).");
    TaleDesk x = new TaleDesk();
    for (int s = 0; s < 4; s++) {
      x.sheet(s, 8, 1);
    }
    for (int wrong : outside(0, 3)) {
      due("from sheet " + wrong, x.copy(wrong, 0, 0, 0, 1), BEYOND);
      due("to sheet " + wrong, x.copy(0, 0, wrong, 0, 1), BEYOND);
    }
    due("from 0 to 3", x.copy(0, 0, 3, 0, 1), 1);
    due("from 3 to 0", x.copy(3, 0, 0, 0, 1), 1);
  }

  static void copyMissing() {
    sentence("29", "MISSING: one is.");
    TaleDesk x = new TaleDesk();
    x.sheet(0, 8, 1);
    due("the one to come to", x.copy(0, 0, 1, 0, 1), MISSING);
    due("the one to come from", x.copy(1, 0, 0, 0, 1), MISSING);
    due("both", x.copy(1, 0, 2, 0, 1), MISSING);
    due("the same", x.copy(1, 0, 1, 0, 0), MISSING);
    due("none of them, to", x.copy(0, 0, 1, 0, 0), MISSING);
    due("none of them, from", x.copy(1, 0, 0, 0, 0), MISSING);
    x.sheet(1, 8, 0);
    due("one without numbers is not MISSING", x.copy(0, 0, 1, 0, 0), 0);
  }

  static void copyKind() {
    sentence("29", "KIND: they are not of as many bits.");
    TaleDesk x = new TaleDesk();
    for (int s = 0; s < 3; s++) {
      x.sheet(s, WIDTHS[s], 3);
    }
    for (int s = 0; s < 3; s++) {
      for (int t = 0; t < 3; t++) {
        due(WIDTHS[s] + " to " + WIDTHS[t], x.copy(s, 0, t, 0, 2), s == t ? 2 : KIND);
        due("none, " + WIDTHS[s] + " to " + WIDTHS[t], x.copy(s, 0, t, 0, 0), s == t ? 0 : KIND);
      }
    }
  }

  static void copyBeyondTheNumbers() {
    sentence("29", "BEYOND: one has not so many, or from, to or n is below 0.");
    TaleDesk x = new TaleDesk();
    x.sheet(0, 8, 9);
    x.sheet(1, 8, 6);
    due("just as many", x.copy(0, 3, 1, 0, 6), 6);
    due("one too many of the first", x.copy(0, 4, 0, 0, 6), BEYOND);
    due("one too many of the second", x.copy(0, 0, 1, 1, 6), BEYOND);
    due("seven of the second", x.copy(0, 0, 1, 0, 7), BEYOND);
    due("seven of the second, from it", x.copy(1, 0, 0, 0, 7), BEYOND);
    due("one from behind the last", x.copy(0, 9, 1, 0, 1), BEYOND);
    due("one to behind the last", x.copy(0, 0, 1, 6, 1), BEYOND);
    due("none just behind the last", x.copy(0, 9, 1, 6, 0), 0);
    due("none from further behind", x.copy(0, 10, 1, 0, 0), BEYOND);
    due("none to further behind", x.copy(0, 0, 1, 7, 0), BEYOND);
  }

  static void copyBelowZeroAndFar() {
    sentence("29", "BEYOND: one has not so many, or from, to or n is below 0.");
    TaleDesk x = new TaleDesk();
    x.sheet(0, 8, 9);
    x.sheet(1, 8, 6);
    int[] wrong = {-1, Integer.MIN_VALUE, Integer.MAX_VALUE, Integer.MAX_VALUE - 1};
    for (int w : wrong) {
      due("from " + w, x.copy(0, w, 1, 0, 1), BEYOND);
      due("to " + w, x.copy(0, 0, 1, w, 1), BEYOND);
      due("n " + w, x.copy(0, 0, 1, 0, w), BEYOND);
      due("none from " + w, x.copy(0, w, 1, 0, 0), BEYOND);
      due("none to " + w, x.copy(0, 0, 1, w, 0), BEYOND);
      for (int n : wrong) {
        due("from " + w + ", n " + n, x.copy(0, w, 1, 0, n), BEYOND);
        due("to " + w + ", n " + n, x.copy(0, 0, 1, w, n), BEYOND);
        due("both " + w + ", n " + n, x.copy(0, w, 0, w, n), BEYOND);
      }
    }
    due("from 1, n -1", x.copy(0, 1, 1, 1, -1), BEYOND);
  }

  // ---- promise 30: lay

  static void layBecomesTheSteps() {
    sentence("30", "A tale's STEPS become those of a sheet: threes of numbers from the first on (motif, who, to whom;");
    for (int bits : WIDTHS) {
      TaleDesk x = new TaleDesk();
      tell(x, FRAME, 1, 1, 1, 1, 1, 1, 1, 1, 1, 1, 1, 1);
      tell(x, TALE, 5, 0, 1);
      write(x, 3, bits, 15, 3, 2, 0, 0, 1);
      due("two for four", x.lay(0, 3), 2);
      dueSteps("two for four", x, 0, 15, 3, 2, 0, 0, 1);
      dueSteps("the other tale", x, 1, 5, 0, 1);
      due("the kind stays", x.told(0, 0), FRAME);
      x.put(3, 0, 7);
      due("a later put", x.of(0, 0, 0), 15);
      due("two for one", x.lay(1, 3), 2);
      dueSteps("two for one", x, 1, 7, 3, 2, 0, 0, 1);
    }
  }

  static void layLeavesOver() {
    sentence("30", "what is left over is not looked at): how many.");
    for (int n = 0; n <= 30; n++) {
      TaleDesk x = new TaleDesk();
      motifs(x, TALE, 1, 2, 3, 4, 5);
      x.sheet(0, 8, n);
      for (int i = 0; i < n; i++) {
        x.put(0, i, i < n - n % 3 ? 3 : 99);
      }
      due("of " + n + " numbers", x.lay(0, 0), n / 3);
      due("STEPS of " + n + " numbers", x.told(0, 3), n / 3);
    }
  }

  static void layBeyond() {
    sentence("30", "BEYOND: no such tale, or sheet.");
    TaleDesk x = new TaleDesk();
    for (int s = 0; s < 4; s++) {
      x.sheet(s, 8, 3);
    }
    due("tale 0 of none", x.lay(0, 0), BEYOND);
    x.tale(TALE, 0, 0);
    for (int wrong : outside(0, 0)) {
      due("tale " + wrong, x.lay(wrong, 0), BEYOND);
    }
    for (int wrong : outside(0, 3)) {
      due("sheet " + wrong, x.lay(0, wrong), BEYOND);
    }
    due("sheet 3", x.lay(0, 3), 1);
  }

  static void layMissing() {
    sentence("30", "MISSING.");
    TaleDesk x = withATale();
    due("at first", x.lay(0, 3), MISSING);
    x.sheet(3, 8, 3);
    due("there", x.lay(0, 3), 1);
    x.sheet(3, 0, 0);
    due("made MISSING", x.lay(0, 3), MISSING);
  }

  static void layOfWrongNumbers() {
    sentence("30", "BEYOND: a number is not as told.");
    int[] greatest = {15, 3, 3};
    for (int n : new int[] {3, 8, 30}) {
      for (int i = 0; i < n - n % 3; i++) {
        TaleDesk x = withATale();
        x.sheet(0, 32, n);
        x.put(0, i, greatest[i % 3]);
        due("the greatest at " + i + " of " + n, x.lay(0, 0), n / 3);
        for (int wrong : outside(0, greatest[i % 3])) {
          x.put(0, i, wrong);
          due(wrong + " at " + i + " of " + n, x.lay(0, 0), BEYOND);
        }
        x.put(0, i, 0);
        due("the least at " + i + " of " + n, x.lay(0, 0), n / 3);
      }
    }
  }

  // ---- promise 31: undo

  private static TaleDesk undoable() {
    TaleDesk x = new TaleDesk();
    x.tale(RETOLD, 1, 10);
    x.tale(TALE, 2, 5);
    x.step(0, 3, 0, 1);
    write(x, 0, 8, 7, 1, 2, 8, 1, 2);
    return x;
  }

  /** An act on a desk of three acts, undone: three more can be. */
  private static TaleDesk undone(String what, ToIntFunction<TaleDesk> act, int due) {
    TaleDesk x = undoable();
    due(what, act.applyAsInt(x), due);
    due(what + " is undone", x.undo(), 3);
    return x;
  }

  static void undoOfEachAct() {
    sentence("31", "The latest act that changed tales, PRICES or WAYS (tale, step, unstep, print, recode, price, way, lay,");
    due("tale", undone("tale", x -> x.tale(FRAME, 0, 0), 2).told(2, 0), BEYOND);
    dueSteps("step", undone("step", x -> x.step(0, 4, 2, 2), 2), 0, 3, 0, 1);
    dueSteps("unstep", undone("unstep", x -> x.unstep(0), 0), 0, 3, 0, 1);
    due("print", undone("print", x -> x.print(0, 1), -1).told(0, 5), -1);
    dueSteps("recode", undone("recode", x -> x.recode(3, 4), 1), 0, 3, 0, 1);
    due("price", undone("price", x -> x.price(0, 9), 4).price(0, 0), 4);
    due("way", undone("way", x -> x.way(1, 2, 6), 0).way(1, 2, 0), 0);
    due("way, told the other way round", undone("way", x -> x.way(2, 1, 6), 0).way(1, 2, 0), 0);
    dueSteps("lay", undone("lay", x -> x.lay(0, 0), 2), 0, 3, 0, 1);
  }

  static void undoOfAHundredSteps() {
    sentence("31", "The latest act that changed tales, PRICES or WAYS (tale, step, unstep, print, recode, price, way, lay,");
    TaleDesk x = new TaleDesk();
    for (int tale = 0; tale < 10; tale++) {
      motifs(x, tale % 4, 5, 5, 5, 5, 5, 5, 5, 5, 5, 5);
    }
    x.recode(5, 6);
    x.sheet(0, 8, 30);
    x.lay(9, 0);
    due("the lay", x.undo(), 19);
    due("the recode", x.undo(), 18);
    for (int tale = 0; tale < 10; tale++) {
      due("STEPS of " + tale, x.told(tale, 3), 10);
      for (int i = 0; i < 10; i++) {
        due("STEP " + i + " of " + tale, x.of(tale, i, 0), 5);
        due("STEP " + i + " of " + tale + ", to whom", x.of(tale, i, 2), 1);
      }
    }
  }

  static void undoOfSeveral() {
    sentence("31", "is undone: how many more can be.");
    TaleDesk x = undoable();
    x.print(0, 1);
    x.print(0, -1);
    x.price(2, 8);
    due("price", x.undo(), 5);
    due("print", x.undo(), 4);
    due("it is tale 1 again", x.told(0, 5), 1);
    due("a new act", x.way(1, 2, 6), 0);
    due("way", x.undo(), 4);
    due("print", x.undo(), 3);
    due("it is none again", x.told(0, 5), -1);
    due("step", x.undo(), 2);
    due("no STEPS again", x.told(0, 3), 0);
    due("tale", x.undo(), 1);
    due("one tale again", x.all(0), 1);
    due("tale", x.undo(), 0);
    due("no tales again", x.all(0), 0);
  }

  static void undoIsNotUndone() {
    sentence("31", "is undone: how many more can be.");
    TaleDesk x = new TaleDesk();
    x.price(0, 1);
    x.price(0, 2);
    due("the second", x.undo(), 1);
    due("the first, not undo itself", x.undo(), 0);
    due("as at first", x.price(0, 4), 4);
  }

  static void undoNotOfFindings() {
    sentence("31", "without a finding)");
    TaleDesk x = undoable();
    x.tale(4, 0, 0);
    x.step(0, 16, 0, 0);
    x.unstep(1);
    x.print(1, 0);
    x.recode(16, 0);
    x.price(3, 0);
    x.way(1, 1, 0);
    x.lay(0, 1);
    due("all of these answered one", x.all(2), 8);
    due("the latest is the step ahead of them", x.undo(), 2);
    due("which is undone", x.told(0, 3), 0);
  }

  static void undoNotOfOtherActs() {
    sentence("31", "The latest act that changed tales, PRICES or WAYS (tale, step, unstep, print, recode, price, way, lay,");
    TaleDesk x = undoable();
    int answers = x.as(0, 0) + x.of(0, 0, 0) + x.told(0, 0) + x.cost(0, 1) + x.carried(0, 1, 0) + x.pair(0, 1, 0)
        + x.pairs(0, 1, true) + x.mould(3) + x.spread(3) + x.tree(3) + x.branch(3, 0) + x.nearest(0)
        + x.source(0) + x.first(0) + x.borrowed(0, 1, 0) + x.joined(0, 1, 1, true) + x.count(3, -1, true)
        + x.home(3) + x.sheet(1, 8, 6) + x.put(0, 0, 9) + x.copy(0, 0, 1, 0, 6) + x.all(0);
    holds("none of these answered a finding", answers > -99999 && x.all(2) == 0);
    due("the latest is the step ahead of them", x.undo(), 2);
    due("which is undone", x.told(0, 3), 0);
    due("the sheets stay", x.lay(0, 0), 2);
    due("what was put stays", x.of(0, 0, 0), 9);
    due("what was copied stays", x.lay(0, 1), 2);
    due("what was copied stays", x.of(0, 0, 0), 9);
  }

  static void undoNone() {
    sentence("31", "NONE.");
    TaleDesk x = new TaleDesk();
    due("a new object", x.undo(), NONE);
    x.tale(4, 0, 0);
    x.sheet(0, 8, 1);
    due("behind a finding and a sheet", x.undo(), NONE);
    x.tale(0, 0, 0);
    due("one", x.undo(), 0);
    due("none left", x.undo(), NONE);
    due("still none", x.undo(), NONE);
    due("nor a tale", x.all(0), 0);
  }

  static void undoKeepsTwenty() {
    sentence("31", "(The latest 20 are kept;");
    for (int acts : new int[] {19, 20, 21, 39, 40, 41, 50}) {
      TaleDesk x = new TaleDesk();
      for (int i = 1; i <= acts; i++) {
        x.price(i % 3, i % 10);
      }
      int kept = Math.min(acts, 20);
      for (int left = kept - 1; left >= 0; left--) {
        due("left of " + acts, x.undo(), left);
      }
      due("no more than twenty of " + acts, x.undo(), NONE);
      int[] prices = {4, 1, 3};
      for (int i = 1; i <= acts - kept; i++) {
        prices[i % 3] = i % 10;
      }
      for (int which = 0; which < 3; which++) {
        due("price " + which + " as it was ahead of the latest 20 of " + acts, x.price(which, 0), prices[which]);
      }
    }
  }

  static void undoKeepsEachOfTwenty() {
    sentence("31", "(The latest 20 are kept;");
    TaleDesk x = withATale();
    for (int day = 1; day <= 45; day++) {
      x.way(4, 5, day);
    }
    for (int back = 1; back <= 20; back++) {
      x.undo();
      due("way, " + back + " back", x.way(4, 5, 0), 45 - back);
      due("that is undone too", x.undo(), 20 - back);
    }
    due("the tale of the first act stays", x.all(0), 1);
    due("none left", x.undo(), NONE);
  }

  static void undoOfActsThatChangedNothing() {
    sentence("31", "also such as changed nothing.)");
    TaleDesk x = undoable();
    due("recode of none", x.recode(9, 8), 0);
    due("recode to itself", x.recode(3, 3), 1);
    due("the same price", x.price(0, 4), 4);
    due("the same way", x.way(1, 2, 0), 0);
    due("the same PRINT", x.print(0, -1), -1);
    x.sheet(1, 8, 0);
    due("lay of no STEPS onto none", x.lay(1, 1), 0);
    for (int left = 8; left >= 3; left--) {
      due("undo", x.undo(), left);
    }
    dueSteps("all stays", x, 0, 3, 0, 1);
    due("then the step", x.undo(), 2);
    due("which is gone", x.told(0, 3), 0);
  }

  // ---- promise 32: all

  static void allTales() {
    sentence("32", "0 tales,");
    TaleDesk x = new TaleDesk();
    due("none", x.all(0), 0);
    for (int i = 1; i <= 10; i++) {
      x.tale(i % 4, 0, 0);
      due("tales", x.all(0), i);
    }
    x.tale(0, 0, 0);
    due("ten", x.all(0), 10);
    x.undo();
    due("nine", x.all(0), 9);
  }

  static void allSteps() {
    sentence("32", "1 STEPS of all,");
    TaleDesk x = new TaleDesk();
    due("none", x.all(1), 0);
    for (int tale = 0; tale < 10; tale++) {
      x.tale(tale % 4, 0, 0);
      for (int i = 1; i <= 10; i++) {
        x.step(tale, 0, 0, 0);
        due("those that are not LAID too", x.all(1), 10 * tale + i);
      }
    }
    x.unstep(3);
    due("one went", x.all(1), 99);
    x.undo();
    due("undone", x.all(1), 100);
  }

  static void allFindings() {
    sentence("32", "2 how many acts answered a finding ever (this one, too, if it does).");
    TaleDesk x = new TaleDesk();
    due("none", x.all(2), 0);
    due("this one does", x.all(3), BEYOND);
    due("it is counted", x.all(2), 1);
    due("this one does not", x.all(2), 1);
    x.undo();
    x.cost(0, 0);
    x.put(0, 0, 0);
    due("looks as well as changes", x.all(2), 4);
    x.tale(RETOLD, 0, 0);
    x.step(0, 1, 0, 1);
    x.tale(TALE, 0, 0);
    x.told(0, 5);
    x.pair(0, 1, 0);
    x.print(0, -1);
    x.borrowed(0, 1, 0);
    due("-1 and 0 are none", x.all(2), 4);
    x.undo();
    x.undo();
    due("ever: undo takes none back", x.all(2), 4);
    due("another object has its own", new TaleDesk().all(2), 0);
  }

  static void allBeyond() {
    sentence("32", "BEYOND: another what.");
    TaleDesk x = new TaleDesk();
    for (int wrong : outside(0, 2)) {
      due("what " + wrong, x.all(wrong), BEYOND);
    }
  }

  public static void main(String[] args) throws ReflectiveOperationException {
    runAll(SheetsTest.class);
  }
}
