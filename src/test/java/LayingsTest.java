/** Promises 12 to 20: COST, CARRYING, LAYING, MOULD, THE TREE and the nearest tale. */
public final class LayingsTest {
  private static final Check CHECK = new Check();

  private static void due(String what, int got, int want) {
    CHECK.due(what, got, want);
  }

  /** A tale with STEPS given as threes of numbers. */
  private static int told(TaleDesk x, int kind, int... steps) {
    int tale = x.tale(kind, 0, 0);
    for (int i = 0; i + 2 < steps.length; i += 3) {
      x.step(tale, steps[i], steps[i + 1], steps[i + 2]);
    }
    return tale;
  }

  private static void cost() {
    TaleDesk x = new TaleDesk();
    due("12 no tale", x.cost(0, 0), Check.BEYOND);
    int empty = told(x, 0);
    due("12 no other", x.cost(empty, 1), Check.BEYOND);
    due("12 no other", x.cost(-1, empty), Check.BEYOND);
    int abc = told(x, 0, 1, 0, 1, 2, 1, 2, 3, 2, 3);
    int turned = told(x, 0, 1, 3, 2, 2, 2, 1, 3, 1, 0);
    due("12 itself", x.cost(abc, abc), 0);
    due("12 beside nothing", x.cost(empty, abc), 9);
    due("12 roles carried", x.cost(abc, turned), 0);
    int oneRole = told(x, 0, 1, 0, 1, 2, 1, 2, 3, 2, 2);
    due("12 one role unlike", x.cost(abc, oneRole), 1);
    int motif = told(x, 0, 1, 0, 1, 9, 1, 2, 3, 2, 3);
    due("12 one motif unlike", x.cost(abc, motif), 4);
    x.price(0, 7);
    due("12 two alone instead", x.cost(abc, motif), 6);
    int noPairs = told(x, 0, 5, 0, 1, 6, 1, 2);
    due("12 nothing in common", x.cost(abc, noPairs), 15);
  }

  private static void tornEnds() {
    TaleDesk x = new TaleDesk();
    int whole = told(x, 0, 1, 0, 1, 2, 0, 1, 3, 0, 1);
    int torn = told(x, 1, 1, 0, 1);
    int retold = told(x, 3, 1, 0, 1);
    int late = told(x, 1, 3, 0, 1);
    due("12 end of b", x.cost(torn, whole), 0);
    due("12 end of a", x.cost(whole, torn), 0);
    due("12 retold is torn", x.cost(retold, whole), 0);
    due("12 ahead of a pair it costs", x.cost(late, whole), 3);
    due("12 both torn", x.cost(late, torn), 0);
    int longTorn = told(x, 1, 1, 0, 1, 2, 0, 1, 9, 0, 1, 9, 0, 1);
    int two = told(x, 0, 1, 0, 1, 2, 0, 1);
    due("12 the torn one's own end costs", x.cost(longTorn, two), 6);
    due("12 the torn one's own end costs", x.cost(two, longTorn), 6);
    int emptyTorn = told(x, 1);
    due("12 without pairs all", x.cost(emptyTorn, whole), 0);
    due("12 without pairs all", x.cost(whole, emptyTorn), 0);
  }

  private static void frames() {
    TaleDesk x = new TaleDesk();
    int inner = told(x, 0, 5, 0, 1);
    int frame = told(x, 2, 8, 0, 0, 5, 0, 1, 8, 0, 0);
    int two = told(x, 2, 8, 0, 0, 8, 0, 0);
    int one = told(x, 2, 5, 2, 3);
    due("12 frame", x.cost(frame, inner), 0);
    due("12 frame of two", x.cost(two, inner), 3);
    due("12 frame of one", x.cost(one, inner), 0);
    due("14 not laid", x.pair(frame, inner, 0), Check.KIND);
    due("14 not laid", x.pair(frame, inner, 2), Check.KIND);
    due("14 laid", x.pair(frame, inner, 1), 0);
    due("14 by b's number", x.pair(inner, frame, 0), 1);
    due("14 frame of two", x.pair(two, inner, 0), Check.KIND);
    due("14 frame of two", x.pair(two, inner, 1), Check.KIND);
    due("14 frame of one", x.pair(one, inner, 0), 0);
    due("14 beyond ahead of kind", x.pair(frame, 9, 0), Check.BEYOND);
  }

  private static void carried() {
    TaleDesk x = new TaleDesk();
    int a = told(x, 0, 1, 0, 1);
    int b = told(x, 0, 1, 3, 1);
    int[] leads = {3, 1, 0, 2};
    for (int role = 0; role < 4; role++) {
      due("13 first of several", x.carried(a, b, role), leads[role]);
    }
    int[] back = {0, 1, 2, 3};
    int same = told(x, 0, 1, 2, 2);
    for (int role = 0; role < 4; role++) {
      due("13 itself", x.carried(same, same, role), back[role]);
    }
    due("13 both unlike motifs, nothing paired", x.carried(a, told(x, 0, 9, 2, 3), 0), 2);
    due("13 role", x.carried(a, b, 4), Check.BEYOND);
    due("13 role", x.carried(a, b, -1), Check.BEYOND);
    due("13 tale", x.carried(a, 9, 0), Check.BEYOND);
    due("13 tale", x.carried(9, b, 0), Check.BEYOND);
    int torn = told(x, 1, 1, 0, 1);
    int retold = told(x, 3, 1, 1, 0);
    due("13 both torn: the first of all", x.carried(torn, retold, 0), 0);
    due("14 both torn: no pair at that price", x.pair(torn, retold, 0), -1);
    due("14 both torn: a pair for nothing", x.pair(torn, torn, 0), 0);
  }

  private static void pair() {
    TaleDesk x = new TaleDesk();
    int a = told(x, 0, 1, 0, 1, 1, 0, 1);
    int b = told(x, 0, 1, 0, 1);
    due("14 P ahead of A", x.pair(a, b, 0), 0);
    due("14 A behind P", x.pair(a, b, 1), -1);
    due("14 P ahead of B", x.pair(b, a, 0), 0);
    int found = x.all(2);
    x.pair(a, b, 1);
    due("14 -1 is no finding", x.all(2), found);
    due("14 step", x.pair(b, a, 1), Check.BEYOND);
    due("14 step", x.pair(a, b, -1), Check.BEYOND);
    due("14 tale", x.pair(9, b, 0), Check.BEYOND);
    due("14 tale", x.pair(a, -1, 0), Check.BEYOND);
    int cross = told(x, 0, 1, 0, 1, 2, 0, 1);
    int over = told(x, 0, 2, 0, 1, 1, 0, 1);
    due("14 A ahead of B", x.pair(cross, over, 0), -1);
    due("14 A ahead of B", x.pair(cross, over, 1), 0);
    x.price(2, 0);
    x.price(0, 0);
    x.price(1, 0);
    due("14 all for nothing", x.pair(cross, over, 0), 0);
    due("14 all for nothing", x.pair(cross, over, 1), 1);
    x.price(0, 9);
    due("14 alone for nothing, A ahead", x.pair(cross, over, 1), 0);
  }

  private static void pairOfTornEnds() {
    TaleDesk x = new TaleDesk();
    int torn = told(x, 1, 1, 0, 1, 2, 0, 1);
    int whole = told(x, 0, 1, 0, 1, 2, 0, 1, 1, 0, 1, 2, 0, 1);
    due("14 torn", x.pair(torn, whole, 0), 0);
    due("14 torn", x.pair(torn, whole, 1), 1);
    x.price(0, 0);
    x.price(1, 0);
    int other = told(x, 1, 7, 0, 1, 8, 0, 1);
    due("14 both torn, as many pairs as can be", x.pairs(torn, other, false), 2);
    due("15 none alike", x.pairs(torn, other, true), 0);
    x.price(0, 9);
    int late = told(x, 1, 9, 0, 1, 1, 0, 1);
    due("14 what is ahead of a pair is not free", x.pairs(late, torn, false), 0);
    x.price(2, 0);
    due("14 unless it costs nothing", x.pair(late, torn, 1), 0);
  }

  private static void pairs() {
    TaleDesk x = new TaleDesk();
    int a = told(x, 0, 1, 0, 1, 2, 0, 1, 3, 0, 1);
    int b = told(x, 0, 1, 0, 1, 9, 0, 1, 3, 0, 1);
    due("15 pairs", x.pairs(a, b, false), 3);
    due("15 alike", x.pairs(a, b, true), 2);
    due("15 itself", x.pairs(a, a, true), 3);
    due("15 none", x.pairs(a, told(x, 0), false), 0);
    due("15 tale", x.pairs(a, 9, false), Check.BEYOND);
    due("15 tale", x.pairs(-1, b, true), Check.BEYOND);
    for (int i = 0; i < 7; i++) {
      x.step(a, i, 0, 1);
    }
    due("15 ten", x.pairs(a, a, true), 10);
  }

  private static void mouldAndSpread() {
    TaleDesk x = new TaleDesk();
    due("16 empty", x.mould(0), Check.NONE);
    due("17 empty", x.spread(0), Check.NONE);
    due("16 no tale", x.mould(1), Check.BEYOND);
    due("17 no tale", x.spread(1), Check.BEYOND);
    int one = told(x, 0, 1, 0, 1);
    int two = told(x, 0, 1, 0, 1, 2, 0, 1);
    int three = told(x, 0, 1, 0, 1, 2, 0, 1, 3, 0, 1);
    due("16 middle", x.mould(7), two);
    due("17 middle", x.spread(7), 6);
    due("16 of several the least", x.mould(1 << one | 1 << three), one);
    due("17 of several the least", x.spread(1 << one | 1 << three), 6);
    due("16 alone", x.mould(4), three);
    due("17 alone", x.spread(4), 0);
    due("16 bit 3", x.mould(8), Check.BEYOND);
    due("17 bit 31", x.spread(Integer.MIN_VALUE), Check.BEYOND);
    due("16 all bits", x.mould(-1), Check.BEYOND);
    x.step(two, 9, 0, 1);
    due("16 follows the steps", x.mould(7), two);
    due("17 follows the steps", x.spread(7), 10);
    x.price(0, 9);
    due("16 follows the prices", x.mould(7), one);
    due("17 follows the prices", x.spread(7), 12);
  }

  private static void tree() {
    TaleDesk x = new TaleDesk();
    due("18 empty", x.tree(0), Check.NONE);
    due("18 no tale", x.tree(1), Check.BEYOND);
    due("19 empty", x.branch(0, 0), Check.NONE);
    due("19 no tale", x.branch(1, 0), Check.BEYOND);
    told(x, 0, 1, 0, 1);
    told(x, 0, 1, 0, 1, 2, 0, 1, 3, 0, 1);
    told(x, 0, 1, 0, 1, 2, 0, 1);
    told(x, 0, 1, 0, 1);
    due("18 alone", x.tree(2), 0);
    due("19 alone", x.branch(2, 0), Check.NONE);
    due("18 sum", x.tree(15), 6);
    due("19 the least first", x.branch(15, 0), 3);
    due("19 of several the lower first", x.branch(15, 1), 2);
    due("19 then the next", x.branch(15, 2), 16 + 2);
    due("19 no more", x.branch(15, 3), Check.NONE);
    due("19 below 0", x.branch(15, -1), Check.NONE);
    due("19 far", x.branch(15, Integer.MAX_VALUE), Check.NONE);
    due("18 some", x.tree(3), 6);
    due("19 some", x.branch(10, 0), 16 + 3);
    due("18 bit", x.tree(16), Check.BEYOND);
    due("19 bit ahead of pair", x.branch(16, -1), Check.BEYOND);
    for (int i = 4; i < 10; i++) {
      told(x, 0, 1, 0, 1);
    }
    due("18 ten", x.tree(1023), 6);
    due("19 ten", x.branch(1023, 6), 9);
    due("19 ten", x.branch(1023, 8), 16 + 2);
    due("19 ten", x.branch(1023, 9), Check.NONE);
    due("18 eleven", x.tree(2047), Check.BEYOND);
  }

  private static void treeOfJoinedParts() {
    TaleDesk x = new TaleDesk();
    told(x, 0, 1, 0, 1);
    told(x, 0, 1, 0, 1, 2, 0, 1, 3, 0, 1);
    told(x, 0, 1, 0, 1, 2, 0, 1);
    told(x, 0, 1, 0, 1, 2, 0, 1, 3, 0, 1, 4, 0, 1);
    due("19 a part joined to a lower one's", x.branch(15, 0), 2);
    due("19 a part joined to a lower one's", x.branch(15, 1), 16 + 2);
    due("19 no round by the first part", x.branch(15, 2), 16 + 3);
    due("18 sum", x.tree(15), 9);
    x.step(3, 5, 0, 1);
    x.step(3, 6, 0, 1);
    due("18 sum", x.tree(15), 15);
    due("19 no round by the first part", x.branch(15, 2), 16 + 3);
  }

  private static void nearest() {
    TaleDesk x = new TaleDesk();
    due("20 no tale", x.nearest(0), Check.BEYOND);
    told(x, 0, 1, 0, 1, 2, 0, 1, 3, 0, 1);
    due("20 no other", x.nearest(0), Check.NONE);
    told(x, 0, 1, 0, 1);
    due("20 the only one", x.nearest(0), 1);
    told(x, 0, 1, 0, 1, 2, 0, 1);
    due("20 the nearer one", x.nearest(0), 2);
    due("20 of several the least", x.nearest(2), 0);
    due("20 beyond", x.nearest(3), Check.BEYOND);
    due("20 beyond", x.nearest(-1), Check.BEYOND);
    x.undo();
    x.undo();
    due("20 behind undo", x.nearest(0), 1);
  }

  public static void main(String[] args) {
    cost();
    tornEnds();
    frames();
    carried();
    pair();
    pairOfTornEnds();
    pairs();
    mouldAndSpread();
    tree();
    treeOfJoinedParts();
    nearest();
    CHECK.end("LayingsTest");
  }
}
