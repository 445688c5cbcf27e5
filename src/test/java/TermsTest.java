/** What stands under "Terms" and "What it is", sentence by sentence; FindingsTest has the order of findings. */
public final class TermsTest extends Sentences {

  // ---- what it is

  static void fiveHundredAndTwelveCalls() {
    sentence("What it is", "An object is used for at most 512 calls after it has been made;");
    TaleDesk refusing = new TaleDesk();
    for (int i = 0; i < 511; i++) {
      refusing.tale(4, 0, 0);
    }
    due("the 512th behind 511 findings", refusing.all(2), 511);
    TaleDesk changing = new TaleDesk();
    for (int i = 0; i < 511; i++) {
      changing.price(0, i % 10);
    }
    due("the 512th behind 511 changes", changing.undo(), 19);
    TaleDesk turning = new TaleDesk();
    for (int i = 0; i < 255; i++) {
      due("there", turning.tale(0, 0, 0), 0);
      due("and back", turning.undo(), 0);
    }
    due("the 511th", turning.tale(0, 0, 0), 0);
    due("the 512th", turning.all(0), 1);
  }

  // ---- findings and heaps

  static void findingsByNumber() {
    sentence("Terms", "FINDINGS are answers below -99999: -100001 BEYOND, -100002 MISSING, -100003 SIZE, -100004 KIND, "
        + "-100005 FULL, -100006 NONE, -100007 RING.");
    TaleDesk x = new TaleDesk();
    due("BEYOND", x.tale(4, 0, 0), -100001);
    due("MISSING", x.put(0, 0, 0), -100002);
    due("SIZE", x.way(1, 1, 0), -100003);
    motifs(x, RETOLD, 1, 2, 3, 4, 5, 6, 7, 8, 9, 10);
    due("KIND", x.as(0, FRAME), -100004);
    due("FULL", x.step(0, 0, 0, 0), -100005);
    due("NONE", x.mould(0), -100006);
    due("RING", x.print(0, 0), -100007);
  }

  static void heapsByBits() {
    sentence("Terms", "Heaps are sets of tales, told by bits.");
    TaleDesk x = new TaleDesk();
    for (int tale = 0; tale < 10; tale++) {
      x.tale(TALE, 0, 0);
      for (int i = 0; i < tale; i++) {
        x.step(tale, 1, 0, 1);
      }
    }
    for (int tale = 0; tale < 10; tale++) {
      due("the heap of " + tale, x.mould(1 << tale), tale);
      due("all but " + tale, x.mould(1023 ^ 1 << tale), tale == 4 ? 5 : tale > 4 ? 4 : 5);
    }
    for (int tale = 1; tale < 10; tale++) {
      due("the heap of 0 and " + tale, x.spread(1 | 1 << tale), 3 * tale);
    }
  }

  // ---- 1: tales

  static void talesAtMostTen() {
    sentence("Terms 1", "TALES 0, 1, .. (at most 10) are of a kind:");
    TaleDesk x = new TaleDesk();
    for (int i = 0; i < 10; i++) {
      due("number", x.tale(i % 4, 0, 0), i);
      due("kind", x.told(i, 0), i % 4);
    }
    due("an eleventh", x.tale(0, 0, 0), FULL);
  }

  static void kindsUnderOneAnother() {
    sentence("Terms 1", "0 TALE, 1 TORN under it, 2 FRAME under TALE, 3 RETOLD under TORN;");
    TaleDesk x = new TaleDesk();
    boolean[][] under = {
      {true, false, false, false}, {true, true, false, false},
      {true, false, true, false}, {true, true, false, true}};
    for (int kind = 0; kind < 4; kind++) {
      x.tale(kind, 0, 0);
      for (int as = 0; as < 4; as++) {
        due(kind + " as " + as, x.as(kind, as), under[kind][as] ? kind : KIND);
      }
    }
  }

  static void placeDayAndSteps() {
    sentence("Terms 1", "each has a place (0 to 5), a day (0 to 999), and up to 10 STEPS: a motif (0 to 15), "
        + "and two roles (0 to 3 each), who does it, and to whom.");
    TaleDesk x = new TaleDesk();
    due("the least", x.tale(TALE, 0, 0), 0);
    due("the greatest", x.tale(TALE, 5, 999), 1);
    due("place 6", x.tale(TALE, 6, 0), BEYOND);
    due("day 1000", x.tale(TALE, 0, 1000), BEYOND);
    due("the least STEP", x.step(0, 0, 0, 0), 1);
    due("the greatest STEP", x.step(0, 15, 3, 3), 2);
    due("who and to whom", x.step(0, 7, 1, 2), 3);
    dueSteps("STEPS", x, 0, 0, 0, 0, 15, 3, 3, 7, 1, 2);
    due("motif 16", x.step(0, 16, 0, 0), BEYOND);
    due("role 4", x.step(0, 0, 4, 0), BEYOND);
    due("role 4", x.step(0, 0, 0, 4), BEYOND);
    for (int i = 4; i <= 10; i++) {
      due("up to 10", x.step(0, 1, 1, 1), i);
    }
    due("an eleventh", x.step(0, 1, 1, 1), FULL);
  }

  static void retoldMayHaveAPrint() {
    sentence("Terms 1", "A RETOLD one may have a PRINT, another tale.");
    TaleDesk x = new TaleDesk();
    for (int kind = 0; kind < 4; kind++) {
      x.tale(kind, 0, 0);
    }
    for (int kind = 0; kind < 3; kind++) {
      due("not kind " + kind, x.print(kind, 3), KIND);
    }
    due("RETOLD", x.print(3, 0), -1);
    due("not itself", x.print(3, 3), RING);
    due("it has one", x.told(3, 5), 0);
  }

  static void laidSteps() {
    sentence("Terms 1", "LAID are all STEPS of a tale, but of a FRAME with two at least those without the first and the last.");
    TaleDesk x = new TaleDesk();
    int inner = motifs(x, TALE, 5);
    int frame = x.tale(FRAME, 0, 0);
    due("a FRAME of none", x.told(frame, 4), 0);
    due("a FRAME of none costs", x.cost(frame, inner), 3);
    x.step(frame, 5, 2, 3);
    due("a FRAME of one", x.told(frame, 4), 1);
    due("a FRAME of one is LAID", x.cost(frame, inner), 0);
    x.step(frame, 8, 0, 0);
    due("a FRAME of two", x.told(frame, 4), 0);
    due("neither is LAID", x.cost(frame, inner), 3);
    x.step(frame, 9, 0, 0);
    due("a FRAME of three", x.told(frame, 4), 1);
    due("the second is LAID, its motif unlike", x.cost(frame, inner), 5);
    x.recode(8, 5);
    due("the second is LAID, its roles unlike", x.cost(frame, inner), 1);
    x.unstep(frame);
    due("two again", x.told(frame, 4), 0);
    x.unstep(frame);
    due("one again", x.told(frame, 4), 1);
    due("one again is LAID", x.cost(frame, inner), 0);
    for (int kind : new int[] {TALE, TORN, RETOLD}) {
      due("all of kind " + kind, x.told(motifs(x, kind, 5, 6), 4), 2);
    }
  }

  // ---- 2: prices, CARRYINGS and LAYINGS

  static void priceOfAMotif() {
    sentence("Terms 2", "PRICES: 0 of a motif in place of another one (4 at first),");
    TaleDesk x = new TaleDesk();
    motifs(x, TALE, 1);
    motifs(x, TALE, 2);
    due("at first", x.cost(0, 1), 4);
    x.price(0, 5);
    due("5", x.cost(0, 1), 5);
    x.price(0, 0);
    due("0", x.cost(0, 1), 0);
    x.price(2, 9);
    x.price(0, 9);
    due("9", x.cost(0, 1), 9);
  }

  static void priceOfARole() {
    sentence("Terms 2", "1 of a role in place of another one (1),");
    TaleDesk x = new TaleDesk();
    tell(x, TALE, 1, 0, 1);
    tell(x, TALE, 1, 2, 2);
    due("at first", x.cost(0, 1), 1);
    x.price(1, 5);
    due("5", x.cost(0, 1), 5);
    x.price(1, 0);
    due("0", x.cost(0, 1), 0);
    x.price(2, 9);
    x.price(1, 9);
    due("9", x.cost(0, 1), 9);
  }

  static void priceOfAStepAlone() {
    sentence("Terms 2", "2 of a STEP that the other tale has not (3);");
    TaleDesk x = new TaleDesk();
    motifs(x, TALE, 1, 2);
    x.tale(TALE, 0, 0);
    due("at first", x.cost(0, 1), 6);
    due("at first, of b", x.cost(1, 0), 6);
    x.price(2, 9);
    due("9", x.cost(0, 1), 18);
    x.price(2, 0);
    due("0", x.cost(0, 1), 0);
  }

  static void pricesUpToNine() {
    sentence("Terms 2", "each 0 to 9.");
    for (int which = 0; which < 3; which++) {
      TaleDesk x = new TaleDesk();
      due("10", x.price(which, 10), BEYOND);
      due("-1", x.price(which, -1), BEYOND);
      x.price(which, 9);
      due("9", x.price(which, 0), 9);
      due("0", x.price(which, 0), 0);
    }
  }

  static void carryingLeadsEachToOne() {
    sentence("Terms 2", "A CARRYING leads each role 0 to 3 to one, no two to the same.");
    for (int[] goals : ReferenceDesk.carryings()) {
      TaleDesk x = new TaleDesk();
      tell(x, TALE, 1, 0, 1, 2, 2, 3);
      tell(x, TALE, 1, goals[0], goals[1], 2, goals[2], goals[3]);
      due("each of the 24 can be", x.cost(0, 1), 0);
      for (int role = 0; role < 4; role++) {
        due("role " + role, x.carried(0, 1, role), goals[role]);
      }
    }
    TaleDesk x = new TaleDesk();
    tell(x, TALE, 1, 0, 1);
    tell(x, TALE, 1, 2, 2);
    due("two to the same", x.cost(0, 1), 1);
    due("one to two", x.cost(1, 0), 1);
  }

  static void pairsRiseInBoth() {
    sentence("Terms 2", "A LAYING of tale a beside tale b by a CARRYING makes pairs of a LAID STEP of each, rising in both;");
    TaleDesk x = new TaleDesk();
    int a = motifs(x, TALE, 1, 2);
    int crossed = motifs(x, TALE, 2, 1);
    due("no two pairs cross", x.cost(a, crossed), 6);
    due("one pair", x.pairs(a, crossed, false), 1);
    int once = motifs(x, TALE, 1);
    int twice = motifs(x, TALE, 1, 1);
    due("no STEP is in two pairs", x.cost(once, twice), 3);
    due("no STEP is in two pairs, of b", x.cost(twice, once), 3);
    due("one pair", x.pairs(once, twice, true), 1);
    int frame = motifs(x, FRAME, 1, 2, 1);
    due("LAID STEPS alone", x.pairs(once, frame, true), 0);
  }

  static void pairsCostMotifs() {
    sentence("Terms 2", "it costs, for each pair, price 0 if motifs are unlike,");
    TaleDesk x = new TaleDesk();
    motifs(x, TALE, 1, 2, 3);
    motifs(x, TALE, 1, 5, 6);
    due("two of three unlike", x.cost(0, 1), 8);
    x.price(0, 5);
    due("price 5", x.cost(0, 1), 10);
    x.price(0, 6);
    due("as dear as two alone", x.cost(0, 1), 12);
    due("as dear as two alone, still pairs", x.pairs(0, 1, false), 3);
    x.price(0, 7);
    due("dearer than two alone", x.cost(0, 1), 12);
    due("dearer than two alone, no pairs", x.pairs(0, 1, false), 1);
  }

  static void pairsCostRoles() {
    sentence("Terms 2", "and price 1 for each of both roles of which a's, carried, is not b's;");
    TaleDesk x = new TaleDesk();
    int same = tell(x, TALE, 1, 0, 1, 1, 0, 1);
    int turned = tell(x, TALE, 1, 0, 1, 1, 1, 0);
    int whoUnlike = tell(x, TALE, 1, 2, 3, 1, 1, 3);
    int whomUnlike = tell(x, TALE, 1, 2, 3, 1, 2, 0);
    due("both", x.cost(same, turned), 2);
    due("who", x.cost(same, whoUnlike), 1);
    due("to whom", x.cost(same, whomUnlike), 1);
    x.price(1, 3);
    due("both, as dear as two alone", x.cost(same, turned), 6);
    due("both, still pairs", x.pairs(same, turned, false), 2);
    x.price(1, 4);
    due("both, dearer than two alone", x.cost(same, turned), 6);
    due("both, no pair", x.pairs(same, turned, false), 1);
    due("who, cheaper than two alone", x.cost(same, whoUnlike), 4);
  }

  static void stepsAloneCost() {
    sentence("Terms 2", "for each LAID STEP without a pair price 2,");
    TaleDesk x = new TaleDesk();
    int whole = motifs(x, TALE, 1, 2, 3);
    int empty = x.tale(TALE, 0, 0);
    due("all of a", x.cost(whole, empty), 9);
    due("all of b", x.cost(empty, whole), 9);
    due("behind a pair", x.cost(whole, motifs(x, TALE, 1)), 6);
    due("ahead of a pair", x.cost(whole, motifs(x, TALE, 3)), 6);
    due("between two pairs", x.cost(whole, motifs(x, TALE, 1, 3)), 3);
    due("a FRAME's first and last don't", x.cost(motifs(x, FRAME, 7, 8), empty), 0);
    due("a FRAME's others do", x.cost(motifs(x, FRAME, 7, 8, 9), empty), 3);
    due("a FRAME is not TORN", x.cost(motifs(x, FRAME, 7, 1, 7), whole), 6);
  }

  static void tornEndOfB() {
    sentence("Terms 2", "but: those of b behind all that are in pairs (without pairs all) cost nothing if a is TORN;");
    TaleDesk x = new TaleDesk();
    int whole = motifs(x, TALE, 1, 2, 3);
    due("behind a pair", x.cost(motifs(x, TORN, 1), whole), 0);
    due("RETOLD is TORN", x.cost(motifs(x, RETOLD, 1, 2), whole), 0);
    due("without pairs all", x.cost(x.tale(TORN, 0, 0), whole), 0);
    due("without pairs all of b, but a's own", x.cost(motifs(x, TORN, 3), whole), 3);
    due("between pairs it costs", x.cost(motifs(x, TORN, 1, 3), whole), 3);
    due("ahead of pairs it costs", x.cost(motifs(x, TORN, 2, 3), whole), 3);
    due("a's own end costs", x.cost(motifs(x, TORN, 1, 2, 3, 9, 9), whole), 6);
    due("a FRAME's end behind a pair", x.cost(motifs(x, TORN, 1), motifs(x, FRAME, 8, 1, 2, 3, 8)), 0);
  }

  static void tornEndOfA() {
    sentence("Terms 2", "those of a likewise if b is.");
    TaleDesk x = new TaleDesk();
    int whole = motifs(x, TALE, 1, 2, 3);
    due("behind a pair", x.cost(whole, motifs(x, TORN, 1)), 0);
    due("RETOLD is TORN", x.cost(whole, motifs(x, RETOLD, 1, 2)), 0);
    due("without pairs all", x.cost(whole, x.tale(RETOLD, 0, 0)), 0);
    due("without pairs all of a, but b's own", x.cost(whole, motifs(x, TORN, 3)), 3);
    due("between pairs it costs", x.cost(whole, motifs(x, TORN, 1, 3)), 3);
    due("ahead of pairs it costs", x.cost(whole, motifs(x, TORN, 2, 3)), 3);
    due("b's own end costs", x.cost(whole, motifs(x, TORN, 1, 2, 3, 9, 9)), 6);
    due("both TORN: all for nothing", x.cost(motifs(x, TORN, 7), motifs(x, RETOLD, 8, 9)), 0);
  }

  static void costIsTheLeastByAnyCarrying() {
    sentence("Terms 2", "COST(a, b): the least that a LAYING costs by any CARRYING.");
    TaleDesk x = new TaleDesk();
    int a = tell(x, TALE, 1, 0, 1, 2, 0, 1);
    due("by the last CARRYING", x.cost(a, tell(x, TALE, 1, 3, 2, 2, 3, 2)), 0);
    due("by one for all pairs", x.cost(a, tell(x, TALE, 1, 2, 3, 2, 3, 2)), 2);
    due("by the one that leads most aright",
        x.cost(tell(x, TALE, 1, 0, 1, 1, 0, 1, 1, 0, 1), tell(x, TALE, 1, 0, 1, 1, 3, 2, 1, 3, 2)), 2);
  }

  private static void dueCarried(String what, TaleDesk x, int a, int b, int... leads) {
    for (int role = 0; role < 4; role++) {
      due(what + ", role " + role, x.carried(a, b, role), leads[role]);
    }
  }

  static void theCarryingIsTheFirst() {
    sentence("Terms 2", "THE CARRYING of a and b: the first (told by where 0, 1, 2, 3 go) by which COST can be.");
    TaleDesk x = new TaleDesk();
    int a = tell(x, TALE, 1, 0, 1);
    int empty = x.tale(TALE, 0, 0);
    dueCarried("any could be", x, a, empty, 0, 1, 2, 3);
    dueCarried("two could be", x, a, tell(x, TALE, 1, 3, 1), 3, 1, 0, 2);
    dueCarried("six could be", x, tell(x, TALE, 1, 1, 1), tell(x, TALE, 1, 0, 0), 1, 0, 2, 3);
    dueCarried("the last", x, a, tell(x, TALE, 1, 3, 2), 3, 2, 0, 1);
    dueCarried("one of two that each cost one", x, a, tell(x, TALE, 1, 2, 2), 0, 2, 1, 3);
    int torn = tell(x, TORN, 1, 0, 1);
    int other = tell(x, RETOLD, 1, 1, 0);
    dueCarried("both TORN: any could be, though another one makes a pair", x, torn, other, 0, 1, 2, 3);
  }

  /** The row of moves of THE LAYING, but for what is alone behind the last pair. */
  private static void duePairs(String what, TaleDesk x, int a, int b, int... partners) {
    for (int i = 0; i < partners.length; i++) {
      due(what + ", STEP " + i, x.pair(a, b, i), partners[i]);
    }
  }

  static void theLayingIsByThatCarrying() {
    sentence("Terms 2", "THE LAYING of them, by that CARRYING:");
    TaleDesk x = new TaleDesk();
    int torn = tell(x, TORN, 1, 0, 1);
    int other = tell(x, RETOLD, 1, 1, 0);
    duePairs("a pair for nothing by another CARRYING only", x, torn, other, -1);
    duePairs("a pair for nothing by the first", x, torn, torn, 0);
    int a = tell(x, TALE, 1, 0, 0, 1, 1, 1);
    int b = tell(x, TALE, 1, 1, 1);
    duePairs("by the first the second STEP is b's, by others the first", x, a, b, -1, 0);
  }

  static void theLayingBeginsAtTheFirst() {
    sentence("Terms 2", "told as a row of moves, from the first LAID STEPS on, P (the next ones of both are a pair), "
        + "A (a's next one is alone), B (b's next one is):");
    TaleDesk x = new TaleDesk();
    int a = motifs(x, TALE, 1, 1, 1);
    int b = motifs(x, TALE, 1);
    duePairs("P A A", x, a, b, 0, -1, -1);
    duePairs("P B B", x, b, a, 0);
    int frame = motifs(x, FRAME, 1, 1, 1, 1);
    duePairs("from the first LAID one of b", x, b, frame, 1);
    due("from the first LAID one of a", x.pair(frame, b, 1), 0);
    due("from the first LAID one of a", x.pair(frame, b, 2), -1);
  }

  static void theLayingIsTheFirst() {
    sentence("Terms 2", "of all that cost so the first, P ahead of A ahead of B.");
    TaleDesk x = new TaleDesk();
    int a = motifs(x, TALE, 1, 2);
    int b = motifs(x, TALE, 2, 1);
    duePairs("A P B ahead of B P A", x, a, b, -1, 0);
    int twice = motifs(x, TALE, 1, 1, 2);
    duePairs("P A P ahead of A P P", x, twice, a, 0, -1, 1);
    duePairs("P B P ahead of B P P", x, a, twice, 0, 2);
    x.price(0, 6);
    int c = motifs(x, TALE, 7);
    int d = motifs(x, TALE, 8);
    duePairs("P ahead of A B", x, c, d, 0);
    x.price(0, 9);
    duePairs("A B where P is dearer", x, c, d, -1);
    x.price(2, 0);
    duePairs("A P B where alone costs nothing", x, a, b, -1, 0);
    x.price(0, 0);
    x.price(1, 0);
    duePairs("P P where all costs nothing", x, a, b, 0, 1);
  }

  static void theLayingOfTornEnds() {
    sentence("Terms 2", "of all that cost so the first, P ahead of A ahead of B.");
    TaleDesk x = new TaleDesk();
    int torn = motifs(x, TORN, 1, 2);
    int whole = motifs(x, TALE, 1, 2, 1, 2);
    duePairs("P P B B", x, torn, whole, 0, 1);
    duePairs("P P A A", x, whole, torn, 0, 1, -1, -1);
    int late = motifs(x, RETOLD, 9, 1);
    duePairs("both TORN: what is ahead of a pair is not free", x, late, torn, -1, -1);
    x.price(2, 0);
    duePairs("unless it costs nothing: A P B", x, late, torn, -1, 0);
    x.price(2, 3);
    x.price(0, 0);
    duePairs("both TORN, pairs for nothing: P P", x, late, torn, 0, 1);
  }

  static void theLayingOfAsManyMovesAsCanBe() {
    sentence("Terms 2", "of all that cost so the first, P ahead of A ahead of B.");
    TaleDesk x = new TaleDesk();
    int a = motifs(x, TALE, 1, 1, 1, 1, 1, 1, 1, 1, 1, 5);
    int b = motifs(x, TALE, 2, 2, 2, 2, 2, 2, 2, 2, 2, 5);
    x.price(0, 9);
    duePairs("nine A, nine B, P", x, a, b, -1, -1, -1, -1, -1, -1, -1, -1, -1, 9);
    due("nine A, nine B, P: one pair", x.pairs(a, b, false), 1);
    due("nine A, nine B, P: cost", x.cost(a, b), 54);
    x.recode(2, 3);
    x.unstep(b);
    x.step(b, 3, 0, 1);
    duePairs("ten A, ten B", x, a, b, -1, -1, -1, -1, -1, -1, -1, -1, -1, -1);
    due("ten A, ten B: no pair", x.pairs(a, b, false), 0);
    due("ten A, ten B, turned round: no pair", x.pairs(b, a, false), 0);
  }

  static void theLayingEndsAheadOfALatePair() {
    sentence("Terms 2", "of all that cost so the first, P ahead of A ahead of B.");
    TaleDesk x = new TaleDesk();
    x.price(0, 9);
    x.price(1, 3);
    int a = tell(x, TALE, 1, 0, 1);
    int torn = tell(x, TORN, 9, 0, 1, 1, 0, 0);
    due("A B B and B P cost the same beside a TORN one", x.cost(a, torn), 6);
    duePairs("A B B ahead of B P", x, a, torn, -1);
    int whole = tell(x, TALE, 9, 0, 1, 1, 0, 0);
    due("beside a TALE B P is cheaper", x.cost(a, whole), 6);
    duePairs("B P where A B B is dearer", x, a, whole, 1);
    int longer = tell(x, TALE, 5, 0, 1, 1, 0, 1);
    int longerTorn = tell(x, TORN, 5, 0, 1, 9, 0, 1, 1, 0, 0);
    due("behind a pair", x.cost(longer, longerTorn), 6);
    duePairs("P A B B ahead of P B P", x, longer, longerTorn, 0, -1);
    int longerWhole = tell(x, TALE, 5, 0, 1, 9, 0, 1, 1, 0, 0);
    duePairs("P B P where P A B B is dearer", x, longer, longerWhole, 0, 2);
  }

  // ---- 3: MOULD and THE TREE

  static void mouldIsOfTheLeastSum() {
    sentence("Terms 3", "MOULD of a heap: the tale of it for which the sum of COST(it, t) over all tales t of the heap is least;");
    TaleDesk x = new TaleDesk();
    motifs(x, TALE, 1);
    motifs(x, TALE, 1, 2);
    motifs(x, TALE, 1, 3);
    motifs(x, TALE, 1, 4);
    x.price(0, 9);
    due("the one in the middle", x.mould(15), 0);
    due("the sum from there", x.spread(15), 9);
    due("only one of the heap", x.mould(14), 1);
    due("the sum from there", x.spread(14), 12);
    motifs(x, TALE, 1, 4);
    due("two alike draw it", x.mould(28), 3);
    due("the sum from there", x.spread(28), 6);
  }

  static void mouldOfSeveral() {
    sentence("Terms 3", "of several the least.");
    TaleDesk x = new TaleDesk();
    for (int i = 0; i < 10; i++) {
      motifs(x, TALE, i);
    }
    for (int tale = 0; tale < 10; tale++) {
      due("of all from " + tale + " on", x.mould(1023 >> tale << tale), tale);
    }
  }

  static void treeIsOfTheLeastSum() {
    sentence("Terms 3", "THE TREE of a heap: of all sets of pairs of its tales that hang all together without a round "
        + "that of the least sum of LINKS,");
    TaleDesk x = new TaleDesk();
    motifs(x, TALE, 1);
    motifs(x, TALE, 1, 2, 3);
    motifs(x, TALE, 1, 2);
    motifs(x, TALE, 1, 2, 3, 4, 5, 6);
    due("three LINKS", x.tree(15), 15);
    due("0 and 2", x.branch(15, 0), 2);
    due("1 and 2", x.branch(15, 1), 16 + 2);
    due("no round by 0 and 1: 1 and 3", x.branch(15, 2), 16 + 3);
    due("no tale outside of the heap helps", x.tree(11), 15);
    due("0 and 1", x.branch(11, 0), 1);
  }

  static void linkIsTheLesser() {
    sentence("Terms 3", "the LINK of two being the lesser of COST both ways;");
    TaleDesk x = new TaleDesk();
    for (int kind = 0; kind < 4; kind++) {
      motifs(x, kind, 1, 2, 3, 4 + kind);
    }
    tell(x, TORN, 1, 3, 2);
    for (int a = 0; a < 5; a++) {
      for (int b = a + 1; b < 5; b++) {
        due("LINK of " + a + " and " + b, x.tree(1 << a | 1 << b), Math.min(x.cost(a, b), x.cost(b, a)));
      }
    }
  }

  static void treeIsMadeByTheLeastLink() {
    sentence("Terms 3", "made so: again and again that pair of the least LINK that would join two parts not joined yet;");
    TaleDesk x = new TaleDesk();
    motifs(x, TALE, 1);
    motifs(x, TALE, 8, 8, 8, 8);
    motifs(x, TALE, 1, 8);
    motifs(x, TALE, 8, 8, 8, 8);
    due("the least, though by later tales", x.branch(15, 0), 16 + 3);
    due("the next", x.branch(15, 1), 2);
    due("the last joins both parts", x.branch(15, 2), 16 + 2);
    due("the sum", x.tree(15), 0 + 3 + 10);
    due("no more", x.branch(15, 3), NONE);
  }

  static void treeOfSeveralTakesTheFirst() {
    sentence("Terms 3", "of several the first by its lower tale, then its higher one.");
    TaleDesk x = new TaleDesk();
    motifs(x, TALE, 1);
    motifs(x, TALE, 2, 2);
    motifs(x, TALE, 2, 2);
    motifs(x, TALE, 1);
    due("0 and 3 ahead of 1 and 2", x.branch(15, 0), 3);
    due("then 1 and 2", x.branch(15, 1), 16 + 2);
    due("0 and 1 ahead of 0 and 2, 1 and 3, 2 and 3", x.branch(15, 2), 1);
    TaleDesk alike = new TaleDesk();
    for (int i = 0; i < 10; i++) {
      alike.tale(TALE, 0, 0);
    }
    for (int i = 0; i < 9; i++) {
      due("of ten alike", alike.branch(1023, i), i + 1);
    }
    for (int i = 0; i < 5; i++) {
      due("of the last six", alike.branch(63 << 4, i), 16 * 4 + 5 + i);
    }
  }

  // ---- 4: WAYS, SOURCES, what is BORROWED, JOINED tales

  static void waysTakeDays() {
    sentence("Terms 4", "WAYS between two places take 0 to 999 days (0 at first;");
    TaleDesk x = new TaleDesk();
    x.tale(TALE, 0, 0);
    x.tale(TALE, 5, 1);
    due("0 at first", x.source(1), 0);
    x.tale(TALE, 5, 998);
    x.tale(TALE, 5, 999);
    x.way(0, 5, 999);
    due("999 days are too many for day 1", x.source(1), NONE);
    due("999 days are too many for day 998, but not from the same place", x.source(2), 1);
    due("999 days are just enough for day 999", x.source(3), 0);
    due("1000 days can't be", x.way(0, 5, 1000), BEYOND);
  }

  static void waysAreTheSameBothWays() {
    sentence("Terms 4", "the same both ways;");
    TaleDesk x = new TaleDesk();
    x.tale(TALE, 1, 10);
    x.tale(TALE, 2, 20);
    x.way(1, 2, 11);
    due("from 1 to 2", x.source(1), NONE);
    x.way(2, 1, 10);
    due("from 1 to 2, told the other way round", x.source(1), 0);
    x.tale(TALE, 1, 30);
    x.way(1, 2, 15);
    due("from 2 to 1", x.source(2), 0);
    TaleDesk back = new TaleDesk();
    back.tale(TALE, 2, 10);
    back.tale(TALE, 1, 20);
    back.way(1, 2, 11);
    due("from 2 to 1", back.source(1), NONE);
  }

  static void wayToItself() {
    sentence("Terms 4", "a place and itself 0;");
    TaleDesk x = new TaleDesk();
    for (int place = 0; place < 6; place++) {
      for (int other = 0; other < place; other++) {
        x.way(place, other, 999);
      }
      due("which can't be told otherwise", x.way(place, place, 999), SIZE);
    }
    for (int place = 0; place < 5; place++) {
      x.tale(TALE, place, 10);
      x.tale(TALE, place, 11);
      due("a day later at place " + place, x.source(2 * place + 1), 2 * place);
    }
  }

  static void noOtherWayRound() {
    sentence("Terms 4", "no other way round is thought of).");
    TaleDesk x = new TaleDesk();
    x.tale(TALE, 0, 10);
    x.tale(TALE, 2, 20);
    x.way(0, 2, 11);
    due("by 1 it would take no days", x.source(1), NONE);
    due("the WAY stays", x.way(0, 2, 10), 11);
    due("just short enough", x.source(1), 0);
  }

  static void sourceCouldHaveCome() {
    sentence("Terms 4", "SOURCE of a tale: of those tales whose day and the WAY between their places together are at most its day,");
    TaleDesk x = new TaleDesk();
    x.tale(TALE, 0, 10);
    x.tale(TALE, 3, 20);
    x.way(0, 3, 9);
    due("a day to spare", x.source(1), 0);
    x.way(0, 3, 10);
    due("on its day", x.source(1), 0);
    x.way(0, 3, 11);
    due("a day too late", x.source(1), NONE);
  }

  static void sourceIsNotItselfAndEarlier() {
    sentence("Terms 4", "and that are not it, and whose day is ahead of its own,");
    TaleDesk x = new TaleDesk();
    x.tale(TALE, 0, 10);
    due("not itself", x.source(0), NONE);
    x.tale(TALE, 0, 10);
    due("not of the same day", x.source(0), NONE);
    due("not of the same day", x.source(1), NONE);
    x.tale(TALE, 0, 11);
    due("not a later one", x.source(0), NONE);
    x.tale(TALE, 0, 9);
    due("a day ahead", x.source(0), 3);
    due("a day ahead", x.source(1), 3);
  }

  static void sourceIsOfTheLeastCost() {
    sentence("Terms 4", "that with the least COST(source, it); of several the least.");
    TaleDesk x = new TaleDesk();
    tellAt(x, TALE, 0, 10, 2, 0, 1);
    tellAt(x, TALE, 0, 11, 1, 3, 2);
    tellAt(x, TALE, 0, 12, 1, 1, 0);
    tellAt(x, TALE, 0, 20, 1, 0, 1);
    due("of 1 and 2 the least", x.source(3), 1);
    x.step(1, 5, 0, 1);
    due("then 2", x.source(3), 2);
    x.step(2, 5, 0, 1);
    due("1 and 2 cost 3, 0 costs 4", x.source(3), 1);
    x.price(0, 3);
    due("all cost 3", x.source(3), 0);
  }

  static void printIsTheSource() {
    sentence("Terms 4", "A RETOLD one with a PRINT has that for SOURCE.");
    TaleDesk x = new TaleDesk();
    tellAt(x, TALE, 0, 4, 1, 0, 1);
    tellAt(x, RETOLD, 0, 5, 1, 0, 1);
    tellAt(x, TALE, 5, 900, 2, 2, 2);
    x.way(0, 5, 999);
    due("by days", x.source(1), 0);
    x.print(1, 2);
    due("by PRINT, later, far away and unlike", x.source(1), 2);
    x.print(1, 0);
    due("by PRINT, tale 0", x.source(1), 0);
    x.print(1, -1);
    due("by days again", x.source(1), 0);
  }

  private static void dueBorrowed(String what, TaleDesk x, int a, int b, int length, int fromA, int fromB) {
    due(what + ", how many", x.borrowed(a, b, 0), length);
    due(what + ", from a's", x.borrowed(a, b, 1), fromA);
    due(what + ", from b's", x.borrowed(a, b, 2), fromB);
  }

  static void borrowedNotOnlyLaid() {
    sentence("Terms 4", "BORROWED by a from b: the longest row of STEPS of a (not only LAID) one behind the other");
    TaleDesk x = new TaleDesk();
    int frame = motifs(x, FRAME, 1, 2, 3);
    int whole = motifs(x, TALE, 1, 2, 3);
    dueBorrowed("a FRAME's first and last too", x, frame, whole, 3, 0, 0);
    dueBorrowed("of b, too", x, whole, frame, 3, 0, 0);
    int gap = motifs(x, TALE, 1, 2, 9, 3, 4, 5);
    int other = motifs(x, TALE, 1, 2, 3, 4, 5);
    dueBorrowed("not over a gap: the longer piece, though later", x, gap, other, 3, 3, 2);
    int torn = motifs(x, TORN, 4, 5);
    dueBorrowed("of a TORN one", x, torn, other, 2, 0, 3);
  }

  static void borrowedNotBehindTheLast() {
    sentence("Terms 4", "BORROWED by a from b: the longest row of STEPS of a (not only LAID) one behind the other");
    TaleDesk x = new TaleDesk();
    int late = tell(x, TALE, 9, 0, 0, 1, 0, 0);
    int early = tell(x, TALE, 1, 0, 0, 0, 0, 0);
    dueBorrowed("a ends", x, late, early, 1, 1, 0);
    dueBorrowed("b ends", x, early, late, 1, 0, 1);
    x.step(late, 0, 0, 0);
    dueBorrowed("a is longer", x, late, early, 2, 1, 0);
    x.unstep(late);
    dueBorrowed("a ends again", x, late, early, 1, 1, 0);
    dueBorrowed("b ends again", x, early, late, 1, 0, 1);
    int ten = motifs(x, TALE, 8, 8, 8, 8, 8, 8, 8, 8, 8, 7);
    motifs(x, TALE, 6);
    dueBorrowed("not into the next tale", x, ten, motifs(x, TALE, 7, 6), 1, 9, 0);
  }

  static void borrowedByOneCarrying() {
    sentence("Terms 4", "that are, by one CARRYING, such a row of b,");
    TaleDesk x = new TaleDesk();
    int a = tell(x, TALE, 1, 0, 1, 2, 0, 1);
    dueBorrowed("carried", x, a, tell(x, TALE, 1, 3, 2, 2, 3, 2), 2, 0, 0);
    dueBorrowed("one role would go to two", x, a, tell(x, TALE, 1, 2, 3, 2, 3, 2), 1, 0, 0);
    dueBorrowed("two roles would go to one", x, a, tell(x, TALE, 1, 2, 3, 2, 2, 2), 1, 0, 0);
    dueBorrowed("a role that went to 0 would go to 3", x, a, tell(x, TALE, 1, 0, 2, 2, 3, 2), 1, 0, 0);
    dueBorrowed("another role would go to 3", x,
        tell(x, TALE, 1, 0, 1, 2, 2, 1), tell(x, TALE, 1, 3, 2, 2, 3, 2), 1, 0, 0);
    dueBorrowed("not over a gap of b", x, a, tell(x, TALE, 1, 0, 1, 9, 0, 1, 2, 0, 1), 1, 0, 0);
  }

  static void borrowedStepByStep() {
    sentence("Terms 4", "step by step the same in motif and both roles;");
    TaleDesk x = new TaleDesk();
    int a = tell(x, TALE, 1, 0, 0);
    due("another motif", x.borrowed(a, tell(x, TALE, 2, 0, 0), 0), 0);
    due("to whom unlike", x.borrowed(a, tell(x, TALE, 1, 0, 1), 0), 0);
    due("both carried", x.borrowed(a, tell(x, TALE, 1, 3, 3), 0), 1);
    int two = tell(x, TALE, 5, 0, 1, 6, 0, 1);
    due("who unlike in the second", x.borrowed(two, tell(x, TALE, 5, 0, 1, 6, 2, 1), 0), 1);
    due("to whom unlike in the second", x.borrowed(two, tell(x, TALE, 5, 0, 1, 6, 0, 2), 0), 1);
    due("motif unlike in the second", x.borrowed(two, tell(x, TALE, 5, 0, 1, 7, 0, 1), 0), 1);
  }

  static void borrowedOfSeveral() {
    sentence("Terms 4", "of several the first in a, then the first in b.");
    TaleDesk x = new TaleDesk();
    int a = motifs(x, TALE, 1, 2, 9, 3, 4);
    int b = motifs(x, TALE, 3, 4, 8, 1, 2, 7, 1, 2);
    dueBorrowed("the first in a, later in b; there the first", x, a, b, 2, 0, 3);
    dueBorrowed("turned round", x, b, a, 2, 0, 3);
    int c = motifs(x, TALE, 1, 1, 1);
    int d = motifs(x, TALE, 1, 1);
    dueBorrowed("over one another in a", x, c, d, 2, 0, 0);
    dueBorrowed("over one another in b", x, d, c, 2, 0, 0);
  }

  static void joinedAtTheLeast() {
    sentence("Terms 4", "JOINED of a tale of b and c: the place k from 0 to its STEPS at which COST of its first k STEPS "
        + "beside b and of its others beside c");
    TaleDesk x = new TaleDesk();
    int ten = motifs(x, TALE, 0, 1, 2, 3, 4, 5, 6, 7, 8, 9);
    int empty = x.tale(TALE, 0, 0);
    due("place 0", x.joined(ten, empty, ten, false), 0);
    due("place 0, price", x.joined(ten, empty, ten, true), 0);
    due("place 10", x.joined(ten, ten, empty, false), 10);
    due("place 10, price", x.joined(ten, ten, empty, true), 0);
    int front = motifs(x, TALE, 0, 1, 2, 3);
    int back = motifs(x, TALE, 4, 5, 6, 7, 8, 9);
    due("place 4", x.joined(ten, front, back, false), 4);
    due("place 4, price", x.joined(ten, front, back, true), 0);
    due("none of none", x.joined(empty, empty, empty, false), 0);
    due("none of none, price", x.joined(empty, empty, empty, true), 0);
    due("none of two", x.joined(empty, front, back, true), 30);
  }

  static void joinedPartsAreTales() {
    sentence("Terms 4", "(both as a TALE)");
    TaleDesk x = new TaleDesk();
    int empty = x.tale(TALE, 0, 0);
    int longer = motifs(x, TALE, 1, 2);
    int torn = motifs(x, TORN, 1);
    due("beside all of a TORN one it does not", x.cost(torn, longer), 0);
    due("a TORN one's end costs", x.joined(torn, longer, empty, true), 3);
    due("a RETOLD one's, too", x.joined(motifs(x, RETOLD, 1), empty, longer, true), 3);
    int frame = motifs(x, FRAME, 8, 1, 9);
    int head = motifs(x, TALE, 8);
    int tail = motifs(x, TALE, 1, 9);
    due("a FRAME is cut whole", x.joined(frame, head, tail, true), 0);
    due("a FRAME is cut whole, place", x.joined(frame, head, tail, false), 1);
    due("a FRAME is laid as one as b", x.joined(motifs(x, TALE, 1), frame, empty, true), 0);
    due("a FRAME is laid as one as c", x.joined(motifs(x, TALE, 1), empty, frame, true), 0);
  }

  static void joinedBesideATornOne() {
    sentence("Terms 4", "(both as a TALE)");
    TaleDesk x = new TaleDesk();
    int whole = motifs(x, TALE, 8, 1, 9);
    int torn = motifs(x, TORN, 8);
    int empty = x.tale(TALE, 0, 0);
    due("b is TORN: all behind is free", x.joined(whole, torn, empty, true), 0);
    due("b is TORN, place", x.joined(whole, torn, empty, false), 3);
    due("c is TORN: all behind is free", x.joined(whole, empty, torn, true), 0);
    due("c is TORN, place", x.joined(whole, empty, torn, false), 0);
  }

  static void joinedOfSeveral() {
    sentence("Terms 4", "together are least; of several the first.");
    TaleDesk x = new TaleDesk();
    int a = motifs(x, TALE, 1, 1);
    int one = motifs(x, TALE, 1);
    int empty = x.tale(TALE, 0, 0);
    due("0, 1 and 2 cost 6", x.joined(a, empty, empty, false), 0);
    due("0, 1 and 2 cost 6", x.joined(a, empty, empty, true), 6);
    due("1 costs nothing", x.joined(a, one, one, false), 1);
    due("1 and 2 cost 3, 0 costs 9", x.joined(a, one, empty, false), 1);
    due("1 and 2 cost 3", x.joined(a, one, empty, true), 3);
  }

  // ---- 5: COUNTS and DOUBTS

  static void countsOfAllTalesThere() {
    sentence("Terms 5", "COUNTS of a motif at a place: STEPS with it of all tales there.");
    TaleDesk x = new TaleDesk();
    for (int kind = 0; kind < 4; kind++) {
      tellAt(x, kind, 2, 0, 6, 0, 1, 5, 0, 1, 6, 3, 3);
    }
    tellAt(x, TALE, 3, 0, 6, 0, 1);
    due("of all kinds, those that are not LAID too", x.count(6, 2, false), 8);
    due("another motif", x.count(5, 2, false), 4);
    due("another place", x.count(6, 3, false), 1);
    x.recode(5, 6);
    due("behind recode", x.count(6, 2, false), 12);
    x.unstep(0);
    due("behind unstep", x.count(6, 2, false), 11);
  }

  static void doubtsOfTornTales() {
    sentence("Terms 5", "DOUBTS: 1 for each TORN tale (RETOLD, too) there that has fewer than 10 STEPS: it may have had it once more.");
    int[] doubts = {0, 1, 0, 1};
    for (int kind = 0; kind < 4; kind++) {
      TaleDesk x = new TaleDesk();
      x.tale(kind, 4, 0);
      for (int n = 0; n < 10; n++) {
        due(n + " STEPS of kind " + kind, x.count(9, 4, true), doubts[kind]);
        due(n + " STEPS of kind " + kind + ", with the motif", x.count(1, 4, true), n + doubts[kind]);
        x.step(0, 1, 0, 1);
      }
      due("10 STEPS", x.count(9, 4, true), 0);
      due("10 STEPS, with the motif", x.count(1, 4, true), 10);
      due("at another place", x.count(1, 3, true), 0);
      x.unstep(0);
      due("9 again", x.count(9, 4, true), doubts[kind]);
    }
    TaleDesk all = new TaleDesk();
    for (int i = 0; i < 10; i++) {
      all.tale(i % 2 == 0 ? TORN : RETOLD, i % 2, 0);
    }
    due("five there", all.count(0, 1, true), 5);
    due("ten at all", all.count(0, -1, true), 10);
  }

  // ---- 6: SHEETS

  static void sheetsZeroToThree() {
    sentence("Terms 6", "SHEETS 0 to 3 are rows of up to 30 numbers of 8, 16 or 32 bits,");
    for (int bits : new int[] {8, 16, 32}) {
      TaleDesk x = new TaleDesk();
      for (int s = 0; s < 4; s++) {
        due("30 numbers", x.sheet(s, bits, 30), 30);
        due("31 numbers", x.sheet(s, bits, 31), BEYOND);
      }
      due("sheet 4", x.sheet(4, bits, 1), BEYOND);
      due("sheet -1", x.sheet(-1, bits, 1), BEYOND);
    }
    due("other bits", new TaleDesk().sheet(0, 64, 1), BEYOND);
  }

  static void sheetsMissingAtFirst() {
    sentence("Terms 6", "or MISSING (all, at first).");
    TaleDesk x = new TaleDesk();
    for (int s = 0; s < 4; s++) {
      due("sheet " + s, x.put(s, 0, 0), MISSING);
    }
    x.sheet(2, 8, 1);
    for (int s = 0; s < 4; s++) {
      due("sheet " + s, x.put(s, 0, 0), s == 2 ? 0 : MISSING);
    }
  }

  public static void main(String[] args) throws ReflectiveOperationException {
    runAll(TermsTest.class);
  }
}
