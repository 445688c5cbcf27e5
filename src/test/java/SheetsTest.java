/** Promises 27 to 32: SHEETS, laying STEPS from them, undo, and the counts of all. */
public final class SheetsTest {
  private static final Check CHECK = new Check();

  private static void due(String what, int got, int want) {
    CHECK.due(what, got, want);
  }

  private static void put(TaleDesk x, int s, int... numbers) {
    for (int i = 0; i < numbers.length; i++) {
      due("put", x.put(s, i, numbers[i]), 0);
    }
  }

  private static void sheet() {
    TaleDesk x = new TaleDesk();
    for (int bits : new int[] {8, 16, 32}) {
      due("27 n", x.sheet(0, bits, 30), 30);
      due("27 empty", x.sheet(0, bits, 0), 0);
      due("27 empty is not missing", x.put(0, 0, 0), Check.BEYOND);
    }
    due("27 sheet", x.sheet(4, 8, 1), Check.BEYOND);
    due("27 sheet", x.sheet(-1, 8, 1), Check.BEYOND);
    for (int bits : new int[] {-8, 1, 7, 9, 15, 24, 31, 33, 64, Integer.MIN_VALUE}) {
      due("27 bits " + bits, x.sheet(0, bits, 1), Check.BEYOND);
      due("27 bits ahead of size", x.sheet(0, bits, -1), Check.BEYOND);
    }
    due("27 below 0", x.sheet(0, 8, -1), Check.SIZE);
    due("27 below 0", x.sheet(0, 8, Integer.MIN_VALUE), Check.SIZE);
    due("27 above 30", x.sheet(0, 8, 31), Check.BEYOND);
    due("27 above 30", x.sheet(0, 8, Integer.MAX_VALUE), Check.BEYOND);
    x.sheet(3, 8, 4);
    due("27 missing", x.sheet(3, 0, 0), 0);
    due("27 missing", x.put(3, 0, 0), Check.MISSING);
    x.sheet(3, 8, 4);
    due("27 missing, n is 0", x.sheet(3, 0, 4), 0);
    due("27 missing", x.put(3, 0, 0), Check.MISSING);
    due("27 missing, below 0", x.sheet(3, 0, -1), Check.SIZE);
    due("27 missing, above 30", x.sheet(3, 0, 31), Check.BEYOND);
  }

  private static void allZero() {
    TaleDesk x = new TaleDesk();
    x.tale(0, 0, 0);
    x.sheet(0, 32, 30);
    for (int i = 0; i < 30; i++) {
      x.put(0, i, 3);
    }
    due("27 threes", x.lay(0, 0), 10);
    due("27 threes", x.of(0, 9, 0), 3);
    x.sheet(0, 32, 30);
    due("27 all 0", x.lay(0, 0), 10);
    for (int i = 0; i < 10; i++) {
      due("27 all 0", x.of(0, i, 0) + x.of(0, i, 1) + x.of(0, i, 2), 0);
    }
  }

  private static void put() {
    TaleDesk x = new TaleDesk();
    x.tale(0, 0, 0);
    due("28 sheet", x.put(4, 0, 0), Check.BEYOND);
    due("28 sheet", x.put(-1, 0, 0), Check.BEYOND);
    due("28 missing ahead of number", x.put(0, -1, 0), Check.MISSING);
    x.sheet(0, 8, 3);
    due("28 number", x.put(0, 3, 0), Check.BEYOND);
    due("28 number", x.put(0, -1, 0), Check.BEYOND);
    put(x, 0, 256 + 15, -256 + 3, 2);
    due("28 lowest 8 bits", x.lay(0, 0), 1);
    due("28 lowest 8 bits", x.of(0, 0, 0), 15);
    due("28 lowest 8 bits", x.of(0, 0, 1), 3);
    put(x, 0, 255);
    due("28 255 is no motif", x.lay(0, 0), Check.BEYOND);
    x.sheet(1, 16, 3);
    put(x, 1, 256);
    due("28 256 of 16 bits", x.lay(0, 1), Check.BEYOND);
    put(x, 1, 65536 * 7 + 9, 65536, 1);
    due("28 lowest 16 bits", x.lay(0, 1), 1);
    due("28 lowest 16 bits", x.of(0, 0, 0), 9);
    x.sheet(2, 32, 3);
    put(x, 2, 65536);
    due("28 65536 of 32 bits", x.lay(0, 2), Check.BEYOND);
    put(x, 2, Integer.MIN_VALUE);
    due("28 all 32 bits", x.lay(0, 2), Check.BEYOND);
    put(x, 2, 5, 3, 3);
    due("28 a small one of 32 bits", x.lay(0, 2), 1);
  }

  private static void copy() {
    TaleDesk x = new TaleDesk();
    x.tale(0, 0, 0);
    due("29 sheet", x.copy(4, 0, 0, 0, 0), Check.BEYOND);
    due("29 sheet", x.copy(0, 0, -1, 0, 0), Check.BEYOND);
    due("29 missing", x.copy(0, 0, 0, 0, 0), Check.MISSING);
    x.sheet(0, 8, 9);
    x.sheet(1, 8, 6);
    x.sheet(2, 16, 6);
    due("29 the second is missing", x.copy(0, 0, 3, -1, 0), Check.MISSING);
    due("29 the first is missing", x.copy(3, 0, 0, 0, 0), Check.MISSING);
    due("29 bits", x.copy(0, -1, 2, 0, 0), Check.KIND);
    due("29 from", x.copy(0, -1, 1, 0, 1), Check.BEYOND);
    due("29 to", x.copy(0, 0, 1, -1, 1), Check.BEYOND);
    due("29 n", x.copy(0, 0, 1, 0, -1), Check.BEYOND);
    due("29 the first has not so many", x.copy(0, 4, 0, 0, 6), Check.BEYOND);
    due("29 the second has not so many", x.copy(0, 0, 1, 0, 7), Check.BEYOND);
    due("29 far", x.copy(0, Integer.MAX_VALUE, 1, 0, Integer.MAX_VALUE), Check.BEYOND);
    due("29 far", x.copy(0, 0, 1, Integer.MAX_VALUE, 1), Check.BEYOND);
    due("29 none at the end", x.copy(0, 9, 1, 6, 0), 0);
    due("29 behind the end", x.copy(0, 10, 1, 0, 0), Check.BEYOND);
    put(x, 0, 9, 0, 1, 10, 1, 2, 11, 2, 3);
    due("29 six", x.copy(0, 3, 1, 0, 6), 6);
    due("29 six", x.lay(0, 1), 2);
    due("29 six", x.of(0, 0, 0), 10);
    due("29 six", x.of(0, 1, 2), 3);
    due("29 onto itself, upward", x.copy(0, 0, 0, 3, 6), 6);
    x.lay(0, 0);
    due("29 as they were", x.of(0, 0, 0), 9);
    due("29 as they were", x.of(0, 1, 0), 9);
    due("29 as they were", x.of(0, 2, 0), 10);
    due("29 onto itself, downward", x.copy(0, 3, 0, 0, 6), 6);
    x.lay(0, 0);
    due("29 downward", x.of(0, 0, 0), 9);
    due("29 downward", x.of(0, 1, 0), 10);
    due("29 downward", x.of(0, 2, 0), 10);
  }

  private static void lay() {
    TaleDesk x = new TaleDesk();
    due("30 tale", x.lay(0, 0), Check.BEYOND);
    x.tale(0, 0, 0);
    x.tale(0, 0, 0);
    due("30 sheet", x.lay(0, 4), Check.BEYOND);
    due("30 sheet", x.lay(0, -1), Check.BEYOND);
    due("30 missing", x.lay(0, 0), Check.MISSING);
    for (int i = 0; i < 4; i++) {
      x.step(0, 1, 1, 1);
    }
    x.sheet(0, 32, 8);
    put(x, 0, 15, 3, 2, 14, 0, 1, 99, 99);
    due("30 two and a left-over", x.lay(0, 0), 2);
    due("30 steps", x.told(0, 3), 2);
    due("30 motif", x.of(0, 0, 0), 15);
    due("30 who", x.of(0, 0, 1), 3);
    due("30 whom", x.of(0, 0, 2), 2);
    due("30 the second", x.of(0, 1, 0), 14);
    due("30 the other tale", x.told(1, 3), 0);
    int[] bounds = {16, 4, 4};
    for (int i = 0; i < 6; i++) {
      x.put(0, i, bounds[i % 3]);
      due("30 number " + i, x.lay(0, 0), Check.BEYOND);
      x.put(0, i, -1);
      due("30 number " + i, x.lay(0, 0), Check.BEYOND);
      x.put(0, i, 3);
    }
    due("30 a finding changes nothing", x.of(0, 0, 0), 15);
    x.sheet(1, 8, 2);
    x.put(1, 0, 77);
    due("30 not one three", x.lay(0, 1), 0);
    due("30 no steps", x.told(0, 3), 0);
    due("30 cost", x.cost(0, 1), 0);
    x.sheet(2, 8, 6);
    due("30 cost follows", x.lay(0, 2) + x.cost(0, 1), 2 + 6);
    x.undo();
    due("30 undone", x.undo(), 7);
    due("30 as it was", x.told(0, 3), 2);
    due("30 as it was", x.of(0, 1, 2), 1);
  }

  private static void undo() {
    TaleDesk x = new TaleDesk();
    due("31 none", x.undo(), Check.NONE);
    x.tale(3, 1, 10);
    x.tale(0, 2, 5);
    x.step(0, 3, 0, 1);
    x.unstep(0);
    due("31 unstep", x.undo(), 3);
    due("31 unstep", x.of(0, 0, 0), 3);
    x.print(0, 1);
    due("31 print", x.undo(), 3);
    due("31 print", x.told(0, 5), -1);
    x.recode(3, 4);
    due("31 recode", x.undo(), 3);
    due("31 recode", x.of(0, 0, 0), 3);
    x.price(0, 9);
    due("31 price", x.undo(), 3);
    due("31 price", x.price(0, 4), 4);
    x.way(1, 2, 6);
    due("31 way is too long", x.source(0), Check.NONE);
    due("31 way", x.undo(), 4);
    due("31 way", x.source(0), 1);
    x.sheet(0, 8, 3);
    x.put(0, 0, 7);
    x.lay(0, 0);
    due("31 cost by lay", x.cost(0, 1), 3);
    due("31 lay", x.undo(), 4);
    due("31 lay", x.of(0, 0, 0), 3);
    due("31 price that changed nothing", x.undo(), 3);
    due("31 step", x.undo(), 2);
    due("31 step", x.told(0, 3), 0);
    due("31 tale", x.undo(), 1);
    due("31 tale", x.told(1, 0), Check.BEYOND);
    due("31 tale", x.undo(), 0);
    due("31 tale", x.all(0), 0);
    due("31 none left", x.undo(), Check.NONE);
    due("31 sheets stay", x.put(0, 2, 0), 0);
    due("31 a new one", x.tale(2, 0, 0), 0);
    due("31 a new one has no print", x.told(0, 5), -1);
  }

  private static void undoKeepsTwenty() {
    TaleDesk x = new TaleDesk();
    x.tale(0, 0, 0);
    for (int i = 1; i <= 25; i++) {
      x.price(0, i % 10);
    }
    x.price(9, 9);
    x.cost(0, 0);
    x.as(0, 0);
    x.sheet(0, 8, 1);
    x.put(0, 0, 1);
    x.copy(0, 0, 0, 0, 1);
    for (int left = 19; left >= 0; left--) {
      due("31 left", x.undo(), left);
    }
    due("31 no more than twenty", x.undo(), Check.NONE);
    due("31 twenty back", x.price(0, 0), 5);
    due("31 the tale stays", x.all(0), 1);
    due("31 one again", x.undo(), 0);
    due("31 one again", x.price(0, 0), 5);
    due("31 findings stay counted", x.all(2), 2);
  }

  private static void undoForgetsCosts() {
    TaleDesk x = new TaleDesk();
    x.tale(0, 0, 0);
    x.step(0, 1, 0, 1);
    x.tale(0, 0, 0);
    due("31 cost", x.cost(0, 1), 3);
    x.undo();
    x.tale(1, 0, 0);
    due("31 cost beside another tale of that number", x.cost(0, 1), 0);
    x.undo();
    x.tale(0, 0, 0);
    x.step(1, 1, 2, 3);
    due("31 cost", x.cost(0, 1), 0);
    x.undo();
    due("31 cost", x.cost(0, 1), 3);
    x.price(2, 9);
    due("31 cost", x.cost(1, 0), 9);
    x.undo();
    due("31 cost", x.cost(1, 0), 3);
    x.recode(1, 2);
    x.step(1, 1, 0, 1);
    due("31 cost", x.cost(1, 0), 4);
    x.recode(1, 2);
    due("31 cost", x.cost(1, 0), 0);
    x.unstep(1);
    due("31 cost", x.cost(1, 0), 3);
  }

  private static void all() {
    TaleDesk x = new TaleDesk();
    due("32 findings", x.all(2), 0);
    due("32 what", x.all(3), Check.BEYOND);
    due("32 this one, too", x.all(2), 1);
    due("32 what", x.all(-1), Check.BEYOND);
    due("32 findings", x.all(2), 2);
    x.tale(0, 0, 0);
    x.tale(3, 0, 0);
    x.step(0, 0, 0, 0);
    x.step(1, 0, 0, 0);
    x.step(1, 0, 0, 0);
    due("32 tales", x.all(0), 2);
    due("32 steps", x.all(1), 3);
    x.undo();
    due("32 steps", x.all(1), 2);
    x.recode(0, 1);
    x.step(0, 9, 0, 1);
    due("32 -1 is none", x.told(1, 5), -1);
    due("32 -1 is none", x.pair(0, 1, 1), -1);
    due("32 -1 is none", x.print(1, -1), -1);
    due("32 findings", x.all(2), 2);
    TaleDesk y = new TaleDesk();
    y.undo();
    due("32 each its own", x.all(2), 2);
    due("32 each its own", y.all(2), 1);
  }

  public static void main(String[] args) {
    sheet();
    allZero();
    put();
    copy();
    lay();
    undo();
    undoKeepsTwenty();
    undoForgetsCosts();
    all();
    CHECK.end("SheetsTest");
  }
}
