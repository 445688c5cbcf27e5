/** Promises 12 to 20, sentence by sentence: COST, CARRYING, LAYING, MOULD, THE TREE and the nearest tale. */
public final class LayingsTest extends Sentences {

  /** Heaps with a bit that tells no tale, where there are so many tales (fewer than 31). */
  private static int[] heapsBeyond(int tales) {
    return new int[] {1 << tales, 1 << tales | 1, 1 << 30, Integer.MIN_VALUE, Integer.MIN_VALUE | 1, -1};
  }

  private static TaleDesk growing() {
    TaleDesk x = new TaleDesk();
    motifs(x, TALE, 1);
    motifs(x, TALE, 1, 2);
    motifs(x, TALE, 1, 2, 3);
    return x;
  }

  // ---- promise 12: cost

  static void costOfTwo() {
    sentence("12", "COST(a, b).");
    TaleDesk x = new TaleDesk();
    int abc = tell(x, TALE, 1, 0, 1, 2, 1, 2, 3, 2, 3);
    int turned = tell(x, TALE, 1, 3, 2, 2, 2, 1, 3, 1, 0);
    int oneRole = tell(x, TALE, 1, 0, 1, 2, 1, 2, 3, 2, 2);
    int oneMotif = tell(x, TALE, 1, 0, 1, 9, 1, 2, 3, 2, 3);
    int noneAlike = tell(x, TALE, 5, 0, 1, 6, 1, 2);
    due("itself", x.cost(abc, abc), 0);
    due("roles carried", x.cost(abc, turned), 0);
    due("one role unlike", x.cost(abc, oneRole), 1);
    due("one motif unlike", x.cost(abc, oneMotif), 4);
    x.price(0, 7);
    due("two alone instead", x.cost(abc, oneMotif), 6);
    due("nothing in common", x.cost(abc, noneAlike), 15);
  }

  static void costOfEmptyTales() {
    sentence("12", "COST(a, b).");
    for (int kind = 0; kind < 4; kind++) {
      for (int other = 0; other < 4; other++) {
        TaleDesk x = new TaleDesk();
        x.tale(kind, 0, 0);
        x.tale(other, 0, 0);
        due("kinds " + kind + " and " + other, x.cost(0, 1), 0);
      }
    }
  }

  static void costOfFullTales() {
    sentence("12", "COST(a, b).");
    TaleDesk x = new TaleDesk();
    x.tale(TALE, 0, 0);
    int ten = tell(x, TALE, 1, 0, 1, 1, 0, 1, 1, 0, 1, 1, 0, 1, 1, 0, 1,
        1, 0, 1, 1, 0, 1, 1, 0, 1, 1, 0, 1, 1, 0, 1);
    int unlike = tell(x, TALE, 2, 0, 0, 2, 0, 0, 2, 0, 0, 2, 0, 0, 2, 0, 0,
        2, 0, 0, 2, 0, 0, 2, 0, 0, 2, 0, 0, 2, 0, 0);
    due("ten beside themselves", x.cost(ten, ten), 0);
    due("ten beside none", x.cost(ten, 0), 30);
    due("none beside ten", x.cost(0, ten), 30);
    due("ten pairs unlike in motif and role", x.cost(ten, unlike), 50);
    for (int which = 0; which < 3; which++) {
      x.price(which, 9);
    }
    due("the greatest there is", x.cost(ten, unlike), 180);
    for (int which = 0; which < 3; which++) {
      x.price(which, 0);
    }
    due("all for nothing", x.cost(ten, unlike), 0);
  }

  static void costFollowsWhatChanges() {
    sentence("12", "COST(a, b).");
    TaleDesk x = new TaleDesk();
    motifs(x, TALE, 1);
    motifs(x, TALE, 1, 2);
    due("at first", x.cost(0, 1), 3);
    x.unstep(1);
    due("behind unstep", x.cost(0, 1), 0);
    x.step(0, 5, 0, 1);
    due("behind step", x.cost(0, 1), 3);
    x.step(1, 6, 0, 1);
    due("behind step of the other", x.cost(0, 1), 4);
    x.price(0, 2);
    due("behind price", x.cost(0, 1), 2);
    x.recode(6, 5);
    due("behind recode", x.cost(0, 1), 0);
    x.sheet(0, 8, 0);
    x.lay(1, 0);
    due("behind lay", x.cost(0, 1), 6);
    due("behind lay, turned round", x.cost(1, 0), 6);
    x.undo();
    due("behind undo", x.cost(0, 1), 0);
    x.undo();
    due("behind undo", x.cost(0, 1), 2);
    x.undo();
    due("behind undo", x.cost(0, 1), 4);
  }

  static void costOfAnotherTaleOfThatNumber() {
    sentence("12", "COST(a, b).");
    TaleDesk x = new TaleDesk();
    motifs(x, TALE, 1);
    x.tale(TALE, 0, 0);
    due("beside a TALE without STEPS", x.cost(0, 1), 3);
    x.undo();
    x.tale(TORN, 0, 0);
    due("beside a TORN one in its place", x.cost(0, 1), 0);
    due("turned round", x.cost(1, 0), 0);
  }

  static void costBeyond() {
    sentence("12", "BEYOND (either).");
    TaleDesk x = new TaleDesk();
    due("tale 0 of none", x.cost(0, 0), BEYOND);
    x.tale(TALE, 0, 0);
    x.tale(TALE, 0, 0);
    for (int wrong : outside(0, 1)) {
      due("a " + wrong, x.cost(wrong, 0), BEYOND);
      due("b " + wrong, x.cost(0, wrong), BEYOND);
      due("both " + wrong, x.cost(wrong, wrong), BEYOND);
    }
  }

  // ---- promise 13: carried

  private static void dueCarried(String what, TaleDesk x, int a, int b, int... leads) {
    for (int role = 0; role < 4; role++) {
      due(what + ", role " + role, x.carried(a, b, role), leads[role]);
    }
  }

  static void carriedRole() {
    sentence("13", "Where THE CARRYING of a and b leads a role.");
    TaleDesk x = new TaleDesk();
    int a = tell(x, TALE, 1, 0, 1, 1, 2, 3);
    int b = tell(x, TALE, 1, 2, 0, 1, 3, 1);
    dueCarried("the only one", x, a, b, 2, 0, 3, 1);
    dueCarried("turned round", x, b, a, 1, 3, 0, 2);
    dueCarried("itself", x, a, a, 0, 1, 2, 3);
    int empty = x.tale(TALE, 0, 0);
    dueCarried("beside none", x, a, empty, 0, 1, 2, 3);
    dueCarried("none beside none", x, empty, empty, 0, 1, 2, 3);
  }

  static void carriedBeyond() {
    sentence("13", "BEYOND: no such tale (either), or role.");
    TaleDesk x = new TaleDesk();
    due("tale 0 of none", x.carried(0, 0, 0), BEYOND);
    motifs(x, TALE, 1);
    motifs(x, TALE, 1);
    for (int wrong : outside(0, 1)) {
      due("a " + wrong, x.carried(wrong, 0, 0), BEYOND);
      due("b " + wrong, x.carried(0, wrong, 0), BEYOND);
    }
    for (int wrong : outside(0, 3)) {
      due("role " + wrong, x.carried(0, 1, wrong), BEYOND);
    }
  }

  // ---- promise 14: pair

  static void pairByItsNumber() {
    sentence("14", "The STEP of b (by its number) that is in a pair with STEP i of a in THE LAYING;");
    TaleDesk x = new TaleDesk();
    int inner = motifs(x, TALE, 1, 2, 3);
    int frame = motifs(x, FRAME, 8, 1, 2, 3, 8);
    int late = motifs(x, TALE, 5, 5, 1, 2, 3);
    for (int i = 0; i < 3; i++) {
      due("of a FRAME, STEP " + i, x.pair(inner, frame, i), i + 1);
      due("from a FRAME, STEP " + i, x.pair(frame, inner, i + 1), i);
      due("of a FRAME beside itself", x.pair(frame, frame, i + 1), i + 1);
      due("behind some alone", x.pair(inner, late, i), i + 2);
      due("from behind some alone", x.pair(late, frame, i + 2), i + 1);
    }
    int ten = motifs(x, TALE, 0, 1, 2, 3, 4, 5, 6, 7, 8, 9);
    due("the tenth", x.pair(ten, ten, 9), 9);
  }

  static void pairNone() {
    sentence("14", "-1: none (no finding).");
    TaleDesk x = new TaleDesk();
    int two = motifs(x, TALE, 1, 2);
    int one = motifs(x, TALE, 2);
    int empty = x.tale(TALE, 0, 0);
    due("the first alone", x.pair(two, one, 0), -1);
    due("the second in a pair", x.pair(two, one, 1), 0);
    due("beside none", x.pair(two, empty, 0), -1);
    due("beside none", x.pair(two, empty, 1), -1);
    int frame = motifs(x, FRAME, 1, 2);
    due("beside a FRAME of two", x.pair(two, frame, 0), -1);
    due("-1 is no finding", x.all(2), 0);
  }

  static void pairBeyond() {
    sentence("14", "BEYOND: no such tale (either), or STEP.");
    TaleDesk x = new TaleDesk();
    due("tale 0 of none", x.pair(0, 0, 0), BEYOND);
    motifs(x, TALE, 1, 2);
    motifs(x, TALE, 1, 2, 3);
    x.tale(TALE, 0, 0);
    motifs(x, FRAME, 1, 2, 3, 4, 5, 6, 7, 8, 9, 10);
    for (int wrong : outside(0, 3)) {
      due("a " + wrong, x.pair(wrong, 0, 0), BEYOND);
      due("b " + wrong, x.pair(0, wrong, 0), BEYOND);
    }
    for (int wrong : outside(0, 1)) {
      due("STEP " + wrong, x.pair(0, 1, wrong), BEYOND);
    }
    due("STEP 0 of a tale without", x.pair(2, 1, 0), BEYOND);
    due("STEP -1 of a FRAME", x.pair(3, 1, -1), BEYOND);
    due("STEP 10 of a FRAME of ten", x.pair(3, 1, 10), BEYOND);
    due("STEP 2 of the longer one", x.pair(1, 0, 2), -1);
  }

  static void pairKind() {
    sentence("14", "KIND: STEP i is not LAID.");
    TaleDesk x = new TaleDesk();
    int inner = motifs(x, TALE, 5);
    int frame = x.tale(FRAME, 0, 0);
    x.step(frame, 5, 2, 3);
    due("a FRAME of one", x.pair(frame, inner, 0), 0);
    for (int n = 2; n <= 10; n++) {
      x.step(frame, 5, 2, 3);
      due("the first of " + n, x.pair(frame, inner, 0), KIND);
      due("the last of " + n, x.pair(frame, inner, n - 1), KIND);
      if (n > 2) {
        due("the second of " + n, x.pair(frame, inner, 1), 0);
        due("the last but one of " + n, x.pair(frame, inner, n - 2), n == 3 ? 0 : -1);
      }
    }
    due("the other one's number", x.pair(inner, frame, 0), 1);
    for (int kind : new int[] {TALE, TORN, RETOLD}) {
      int other = motifs(x, kind, 5, 5);
      due("the first of kind " + kind, x.pair(other, inner, 0), 0);
      due("the last of kind " + kind, x.pair(other, inner, 1), -1);
    }
  }

  // ---- promise 15: pairs

  static void pairsOfALaying() {
    sentence("15", "How many pairs THE LAYING has (like: of which the motifs are alike).");
    TaleDesk x = new TaleDesk();
    int a = motifs(x, TALE, 1, 2, 3);
    int b = motifs(x, TALE, 1, 9, 3);
    int empty = x.tale(TALE, 0, 0);
    due("pairs", x.pairs(a, b, false), 3);
    due("alike", x.pairs(a, b, true), 2);
    due("beside none", x.pairs(a, empty, false), 0);
    due("none beside one", x.pairs(empty, a, true), 0);
    due("none beside none", x.pairs(empty, empty, false), 0);
    int others = motifs(x, TALE, 7, 7, 7);
    due("none alike", x.pairs(a, others, true), 0);
    due("none alike, pairs", x.pairs(a, others, false), 3);
    int roles = tell(x, TALE, 1, 0, 0, 2, 1, 1, 3, 0, 0);
    due("alike in motif though not in roles", x.pairs(a, roles, true), 3);
    int ten = motifs(x, TALE, 0, 1, 2, 3, 4, 5, 6, 7, 8, 9);
    due("ten", x.pairs(ten, ten, false), 10);
    due("ten alike", x.pairs(ten, ten, true), 10);
    int frame = motifs(x, FRAME, 1, 2, 3);
    due("only LAID ones", x.pairs(frame, frame, true), 1);
    due("only LAID ones, of b", x.pairs(a, frame, true), 1);
  }

  static void pairsBeyond() {
    sentence("15", "BEYOND.");
    TaleDesk x = new TaleDesk();
    due("tale 0 of none", x.pairs(0, 0, false), BEYOND);
    motifs(x, TALE, 1);
    for (int wrong : outside(0, 0)) {
      due("a " + wrong, x.pairs(wrong, 0, false), BEYOND);
      due("b " + wrong, x.pairs(0, wrong, true), BEYOND);
    }
  }

  // ---- promise 16: mould

  static void mouldOfAHeap() {
    sentence("16", "MOULD of a heap.");
    TaleDesk x = growing();
    due("the middle one", x.mould(7), 1);
    for (int tale = 0; tale < 3; tale++) {
      due("alone", x.mould(1 << tale), tale);
    }
    x.price(0, 9);
    x.step(1, 9, 0, 1);
    due("behind step and price", x.mould(7), 0);
    x.undo();
    due("behind undo", x.mould(7), 1);
  }

  static void mouldBeyond() {
    sentence("16", "BEYOND: a bit tells no tale.");
    due("without tales", new TaleDesk().mould(1), BEYOND);
    for (int heap : heapsBeyond(3)) {
      due("heap " + heap, growing().mould(heap), BEYOND);
    }
    TaleDesk ten = tenTales();
    due("ten", ten.mould(1023), 0);
    due("bit 10 of ten", ten.mould(1024), BEYOND);
    due("bit 10 beside all", ten.mould(2047), BEYOND);
  }

  static void mouldNone() {
    sentence("16", "NONE: it is empty.");
    due("without tales", new TaleDesk().mould(0), NONE);
    due("with three", growing().mould(0), NONE);
  }

  private static TaleDesk tenTales() {
    TaleDesk x = new TaleDesk();
    for (int i = 0; i < 10; i++) {
      motifs(x, TALE, 1);
    }
    return x;
  }

  // ---- promise 17: spread

  static void spreadOfAHeap() {
    sentence("17", "The sum of COST(mould, t) over a heap, of its MOULD.");
    TaleDesk x = growing();
    due("of three", x.spread(7), 6);
    due("of the outer two", x.spread(5), 6);
    due("of two", x.spread(6), 3);
    for (int tale = 0; tale < 3; tale++) {
      due("of one", x.spread(1 << tale), 0);
    }
    x.step(1, 9, 0, 1);
    due("behind step", x.spread(7), 10);
    x.price(0, 9);
    due("behind price, of another MOULD", x.spread(7), 12);
    due("of ten alike", tenTales().spread(1023), 0);
  }

  static void spreadBeyondAndNone() {
    sentence("17", "BEYOND, NONE.");
    due("heap 1 without tales", new TaleDesk().spread(1), BEYOND);
    for (int heap : heapsBeyond(3)) {
      due("heap " + heap, growing().spread(heap), BEYOND);
    }
    due("bit 10 of ten", tenTales().spread(1024), BEYOND);
    due("an empty heap without tales", new TaleDesk().spread(0), NONE);
    due("an empty heap", growing().spread(0), NONE);
  }

  // ---- promise 18: tree

  static void treeOfAHeap() {
    sentence("18", "The sum of LINKS of THE TREE of a heap.");
    TaleDesk x = growing();
    due("of three", x.tree(7), 6);
    due("of the outer two", x.tree(5), 6);
    due("of two", x.tree(3), 3);
    for (int tale = 0; tale < 3; tale++) {
      due("of one", x.tree(1 << tale), 0);
    }
    x.price(2, 9);
    due("behind price", x.tree(7), 18);
    x.undo();
    due("behind undo", x.tree(7), 6);
    TaleDesk ten = tenTales();
    due("of ten alike", ten.tree(1023), 0);
    ten.step(9, 2, 0, 1);
    due("of ten, one longer", ten.tree(1023), 3);
  }

  static void treeBeyondAndNone() {
    sentence("18", "BEYOND, NONE.");
    due("heap 1 without tales", new TaleDesk().tree(1), BEYOND);
    for (int heap : heapsBeyond(3)) {
      due("heap " + heap, growing().tree(heap), BEYOND);
    }
    due("bit 10 of ten", tenTales().tree(1024), BEYOND);
    due("an empty heap without tales", new TaleDesk().tree(0), NONE);
    due("an empty heap", growing().tree(0), NONE);
  }

  // ---- promise 19: branch

  static void branchAsTheyCome() {
    sentence("19", "Pair i of THE TREE, as they come: 16 times the lower tale and the higher one.");
    TaleDesk x = new TaleDesk();
    motifs(x, TALE, 1);
    motifs(x, TALE, 1, 2, 3);
    motifs(x, TALE, 1, 2);
    motifs(x, TALE, 1);
    due("the least first: 0 and 3", x.branch(15, 0), 3);
    due("then 0 and 2", x.branch(15, 1), 2);
    due("then 1 and 2", x.branch(15, 2), 16 + 2);
    due("of two", x.branch(10, 0), 16 + 3);
    TaleDesk ten = tenTales();
    for (int i = 0; i < 9; i++) {
      due("of ten alike, pair " + i, ten.branch(1023, i), i + 1);
    }
    due("8 and 9", ten.branch(3 << 8, 0), 16 * 8 + 9);
  }

  static void branchBeyond() {
    sentence("19", "BEYOND: a bit tells no tale.");
    due("heap 1 without tales", new TaleDesk().branch(1, 0), BEYOND);
    for (int heap : heapsBeyond(3)) {
      due("heap " + heap, growing().branch(heap, 0), BEYOND);
    }
    due("bit 10 of ten", tenTales().branch(2047, 0), BEYOND);
  }

  static void branchNone() {
    sentence("19", "NONE: it is empty, or there is no such pair.");
    due("an empty heap without tales", new TaleDesk().branch(0, 0), NONE);
    TaleDesk x = growing();
    due("an empty heap", x.branch(0, 0), NONE);
    for (int tale = 0; tale < 3; tale++) {
      due("pair 0 of one", x.branch(1 << tale, 0), NONE);
    }
    due("pair 1 of two", x.branch(3, 1), NONE);
    due("pair 1 of three", x.branch(7, 1), 16 + 2);
    for (int wrong : outside(0, 1)) {
      due("pair " + wrong + " of three", x.branch(7, wrong), NONE);
    }
    due("pair 9 of ten", tenTales().branch(1023, 9), NONE);
    due("pair 1 of a small heap behind a large one", x.branch(5, 1), NONE);
  }

  // ---- promise 20: nearest

  static void nearestOfAllOthers() {
    sentence("20", "The tale to which another one has the least COST(other, it), of all others;");
    TaleDesk x = new TaleDesk();
    motifs(x, TALE, 1, 2, 3);
    motifs(x, TALE, 1);
    due("the only other one", x.nearest(0), 1);
    due("the only other one", x.nearest(1), 0);
    motifs(x, TALE, 1, 2);
    due("the nearer one", x.nearest(0), 2);
    x.tale(TORN, 5, 999);
    due("a later one far away too", x.nearest(0), 3);
    x.undo();
    due("behind undo", x.nearest(0), 2);
  }

  static void nearestOfSeveral() {
    sentence("20", "of several the least.");
    TaleDesk x = growing();
    due("0 and 2 as near to 1", x.nearest(1), 0);
    due("of ten alike", tenTales().nearest(9), 0);
    due("of ten alike, not itself", tenTales().nearest(0), 1);
  }

  static void nearestBeyond() {
    sentence("20", "BEYOND.");
    due("tale 0 of none", new TaleDesk().nearest(0), BEYOND);
    for (int wrong : outside(0, 2)) {
      due("tale " + wrong, growing().nearest(wrong), BEYOND);
    }
    due("tale 10 of ten", tenTales().nearest(10), BEYOND);
  }

  static void nearestNone() {
    sentence("20", "NONE: there is no other one.");
    TaleDesk x = new TaleDesk();
    x.tale(TALE, 0, 0);
    due("the only tale", x.nearest(0), NONE);
    x.tale(TALE, 0, 0);
    due("with another one", x.nearest(0), 1);
    x.undo();
    due("when that is undone", x.nearest(0), NONE);
  }

  public static void main(String[] args) throws ReflectiveOperationException {
    runAll(LayingsTest.class);
  }
}
