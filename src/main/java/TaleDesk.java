import java.util.Arrays;

/** A desk for tales parted into motifs; ../shared/DOC.md says what each call promises. */
public final class TaleDesk {
  private static final int BEYOND = -100001;
  private static final int MISSING = -100002;
  private static final int SIZE = -100003;
  private static final int KIND = -100004;
  private static final int FULL = -100005;
  private static final int NONE = -100006;
  private static final int RING = -100007;

  private static final int TALE = 0;
  private static final int TORN = 1;
  private static final int FRAME = 2;
  private static final int RETOLD = 3;

  private static final int KINDS = 4;
  private static final int TALES = 10;
  private static final int STEPS = 10;
  private static final int MOTIFS = 16;
  private static final int ROLES = 4;
  private static final int PLACES = 6;
  private static final int DAYS = 1000;
  private static final int PRICES = 3;
  private static final int HIGHEST_PRICE = 9;
  private static final int SHEETS = 4;
  private static final int NUMBERS = 30;
  private static final int KEPT_ACTS = 20;
  private static final int BRANCH_BASE = 16;
  private static final int EVERYWHERE = -1;
  private static final int NO_TALE = -1;

  private static final int UNLIKE_MOTIF = 0;
  private static final int UNLIKE_ROLE = 1;
  private static final int ALONE = 2;

  /** A STEP is one number, so that what two have unlike shows in the bits of their difference. */
  private static final int MOTIF_BITS = 0xF0;
  private static final int WHO_BITS = 0x0C;
  private static final int WHOM_BITS = 0x03;

  /** Where 0, 1, 2, 3 go, a hexadecimal digit each, so that rising numbers are the document's order. */
  private static final int[] CARRYINGS = {
    0x0123, 0x0132, 0x0213, 0x0231, 0x0312, 0x0321,
    0x1023, 0x1032, 0x1203, 0x1230, 0x1302, 0x1320,
    0x2013, 0x2031, 0x2103, 0x2130, 0x2301, 0x2310,
    0x3012, 0x3021, 0x3102, 0x3120, 0x3201, 0x3210
  };

  private final Book book;
  private final History history;
  private final Costs costs;
  private final Tree bestTree;
  private final Borrowing borrowing;
  private final Sheet[] sheets;
  private int findings;

  public TaleDesk() {
    book = new Book();
    history = new History();
    costs = new Costs();
    bestTree = new Tree();
    borrowing = new Borrowing();
    sheets = new Sheet[SHEETS];
    for (int s = 0; s < SHEETS; s++) {
      sheets[s] = new Sheet();
    }
    findings = 0;
  }

  // ---- tales

  public int tale(int kind, int place, int day) {
    if (!isWithin(kind, KINDS) || !isWithin(place, PLACES) || !isWithin(day, DAYS)) {
      return finding(BEYOND);
    }
    if (book.tales >= TALES) {
      return finding(FULL);
    }
    history.keep(book);
    return book.addTale(kind, place, day);
  }

  public int as(int tale, int kind) {
    if (!book.hasTale(tale) || !isWithin(kind, KINDS)) {
      return finding(BEYOND);
    }
    return isUnder(book.kinds[tale], kind) ? tale : finding(KIND);
  }

  public int step(int tale, int motif, int who, int whom) {
    if (!book.hasTale(tale) || !isStep(motif, who, whom)) {
      return finding(BEYOND);
    }
    if (book.lengths[tale] >= STEPS) {
      return finding(FULL);
    }
    history.keep(book);
    book.addStep(tale, packed(motif, who, whom));
    costs.forget(tale);
    return book.lengths[tale];
  }

  public int unstep(int tale) {
    if (!book.hasTale(tale)) {
      return finding(BEYOND);
    }
    if (book.lengths[tale] <= 0) {
      return finding(NONE);
    }
    history.keep(book);
    book.lengths[tale]--;
    costs.forget(tale);
    return book.lengths[tale];
  }

  public int of(int tale, int i, int what) {
    if (!book.hasStep(tale, i) || !isWithin(what, 3)) {
      return finding(BEYOND);
    }
    int step = book.stepAt(tale, i);
    return what == 0 ? motifOf(step) : what == 1 ? whoOf(step) : whomOf(step);
  }

  public int told(int tale, int what) {
    if (!book.hasTale(tale)) {
      return finding(BEYOND);
    }
    switch (what) {
      case 0: return book.kinds[tale];
      case 1: return book.places[tale];
      case 2: return book.days[tale];
      case 3: return book.lengths[tale];
      case 4: return book.laidLength(tale);
      case 5: return book.prints[tale];
      default: return finding(BEYOND);
    }
  }

  public int print(int tale, int other) {
    if (!book.hasTale(tale) || (other != NO_TALE && !book.hasTale(other))) {
      return finding(BEYOND);
    }
    if (book.kinds[tale] != RETOLD) {
      return finding(KIND);
    }
    if (book.printsLeadTo(other, tale)) {
      return finding(RING);
    }
    history.keep(book);
    int before = book.prints[tale];
    book.prints[tale] = other;
    return before;
  }

  public int recode(int motif, int other) {
    if (!isWithin(motif, MOTIFS) || !isWithin(other, MOTIFS)) {
      return finding(BEYOND);
    }
    history.keep(book);
    costs.forgetAll();
    return book.changeMotif(motif, other);
  }

  public int price(int which, int v) {
    if (!isWithin(which, PRICES) || !isWithin(v, HIGHEST_PRICE + 1)) {
      return finding(BEYOND);
    }
    history.keep(book);
    costs.forgetAll();
    int before = book.prices[which];
    book.prices[which] = v;
    return before;
  }

  public int way(int place, int other, int days) {
    if (!isWithin(place, PLACES) || !isWithin(other, PLACES) || !isWithin(days, DAYS)) {
      return finding(BEYOND);
    }
    if (place == other) {
      return finding(SIZE);
    }
    history.keep(book);
    int before = book.wayBetween(place, other);
    book.setWay(place, other, days);
    return before;
  }

  // ---- layings

  public int cost(int a, int b) {
    if (!book.hasTale(a) || !book.hasTale(b)) {
      return finding(BEYOND);
    }
    return costs.between(book, a, b);
  }

  public int carried(int a, int b, int role) {
    if (!book.hasTale(a) || !book.hasTale(b) || !isWithin(role, ROLES)) {
      return finding(BEYOND);
    }
    return goal(costs.layTales(book, a, b).carrying, role);
  }

  public int pair(int a, int b, int i) {
    if (!book.hasStep(a, i) || !book.hasTale(b)) {
      return finding(BEYOND);
    }
    int laid = i - book.firstLaid(a);
    if (!isWithin(laid, book.laidLength(a))) {
      return finding(KIND);
    }
    int partner = costs.pairTales(book, a, b).partners[laid];
    return partner < 0 ? -1 : partner + book.firstLaid(b);
  }

  public int pairs(int a, int b, boolean like) {
    if (!book.hasTale(a) || !book.hasTale(b)) {
      return finding(BEYOND);
    }
    return costs.pairTales(book, a, b).howManyPairs(like);
  }

  public int mould(int heap) {
    int refusal = heapRefusal(heap);
    if (refusal < 0) {
      return finding(refusal);
    }
    costs.reckonHeap(book, heap);
    return mouldOf(heap);
  }

  public int spread(int heap) {
    int refusal = heapRefusal(heap);
    if (refusal < 0) {
      return finding(refusal);
    }
    costs.reckonHeap(book, heap);
    return sumOfCosts(mouldOf(heap), heap);
  }

  public int tree(int heap) {
    int refusal = heapRefusal(heap);
    if (refusal < 0) {
      return finding(refusal);
    }
    costs.reckonHeap(book, heap);
    bestTree.grow(costs.known, heap);
    return bestTree.sum;
  }

  public int branch(int heap, int i) {
    int refusal = heapRefusal(heap);
    if (refusal < 0) {
      return finding(refusal);
    }
    costs.reckonHeap(book, heap);
    bestTree.grow(costs.known, heap);
    return isWithin(i, bestTree.size) ? bestTree.branches[i] : finding(NONE);
  }

  public int nearest(int tale) {
    if (!book.hasTale(tale)) {
      return finding(BEYOND);
    }
    int best = cheapestBeside(tale, false);
    return best < 0 ? finding(NONE) : best;
  }

  // ---- wandering

  public int source(int tale) {
    if (!book.hasTale(tale)) {
      return finding(BEYOND);
    }
    int from = sourceOf(tale);
    return from < 0 ? finding(NONE) : from;
  }

  public int first(int tale) {
    if (!book.hasTale(tale)) {
      return finding(BEYOND);
    }
    int at = tale;
    // A row of SOURCES that does not end within as many hops as there are tales has met one twice.
    for (int hops = 0; hops < book.tales; hops++) {
      int from = sourceOf(at);
      if (from < 0) {
        return at;
      }
      at = from;
    }
    return finding(RING);
  }

  public int borrowed(int a, int b, int what) {
    if (!book.hasTale(a) || !book.hasTale(b) || !isWithin(what, 3)) {
      return finding(BEYOND);
    }
    borrowing.find(book, a, b);
    if (what == 0) {
      return borrowing.length;
    }
    if (borrowing.length == 0) {
      return finding(NONE);
    }
    return what == 1 ? borrowing.fromA : borrowing.fromB;
  }

  public int joined(int tale, int b, int c, boolean price) {
    if (!book.hasTale(tale) || !book.hasTale(b) || !book.hasTale(c)) {
      return finding(BEYOND);
    }
    int length = book.lengths[tale];
    int place = 0;
    int least = 0;
    for (int k = 0; k <= length; k++) {
      int both = costs.ofPart(book, tale, 0, k, b) + costs.ofPart(book, tale, k, length - k, c);
      if (k == 0 || both < least) {
        place = k;
        least = both;
      }
    }
    return price ? least : place;
  }

  public int count(int motif, int place, boolean most) {
    if (!isWithin(motif, MOTIFS) || (place != EVERYWHERE && !isWithin(place, PLACES))) {
      return finding(BEYOND);
    }
    int counted = book.howOftenAt(motif, place);
    return most ? counted + book.doubtsAt(place) : counted;
  }

  public int home(int motif) {
    if (!isWithin(motif, MOTIFS)) {
      return finding(BEYOND);
    }
    int best = -1;
    int most = 0;
    for (int place = 0; place < PLACES; place++) {
      int here = book.howOftenAt(motif, place);
      if (here > most) {
        best = place;
        most = here;
      }
    }
    return best < 0 ? finding(NONE) : best;
  }

  // ---- sheets

  public int sheet(int s, int bits, int n) {
    if (!isWithin(s, SHEETS) || (bits != 0 && bits != 8 && bits != 16 && bits != 32)) {
      return finding(BEYOND);
    }
    if (n < 0) {
      return finding(SIZE);
    }
    if (n > NUMBERS) {
      return finding(BEYOND);
    }
    sheets[s].makeAnew(bits, n);
    return sheets[s].length;
  }

  public int put(int s, int i, int v) {
    if (!isWithin(s, SHEETS)) {
      return finding(BEYOND);
    }
    if (sheets[s].isMissing()) {
      return finding(MISSING);
    }
    if (!isWithin(i, sheets[s].length)) {
      return finding(BEYOND);
    }
    sheets[s].write(i, v);
    return 0;
  }

  public int copy(int s, int from, int t, int to, int n) {
    if (!isWithin(s, SHEETS) || !isWithin(t, SHEETS)) {
      return finding(BEYOND);
    }
    if (sheets[s].isMissing() || sheets[t].isMissing()) {
      return finding(MISSING);
    }
    if (sheets[s].bits != sheets[t].bits) {
      return finding(KIND);
    }
    if (!sheets[s].holds(from, n) || !sheets[t].holds(to, n)) {
      return finding(BEYOND);
    }
    System.arraycopy(sheets[s].numbers, from, sheets[t].numbers, to, n);
    return n;
  }

  public int lay(int tale, int s) {
    if (!book.hasTale(tale) || !isWithin(s, SHEETS)) {
      return finding(BEYOND);
    }
    if (sheets[s].isMissing()) {
      return finding(MISSING);
    }
    if (!sheets[s].tellsSteps()) {
      return finding(BEYOND);
    }
    history.keep(book);
    costs.forget(tale);
    book.lengths[tale] = 0;
    for (int i = 0; i < sheets[s].howManySteps(); i++) {
      book.addStep(tale, sheets[s].stepAt(i));
    }
    return book.lengths[tale];
  }

  public int undo() {
    if (history.kept <= 0) {
      return finding(NONE);
    }
    history.giveBack(book);
    costs.forgetAll();
    return history.kept;
  }

  public int all(int what) {
    switch (what) {
      case 0: return book.tales;
      case 1: return book.howManySteps();
      case 2: return findings;
      default: return finding(BEYOND);
    }
  }

  // ---- what the calls share

  private int finding(int which) {
    findings++;
    return which;
  }

  /** The finding that a heap gives, or 0. */
  private int heapRefusal(int heap) {
    if ((heap >>> book.tales) != 0) {
      return BEYOND;
    }
    return heap == 0 ? NONE : 0;
  }

  private int mouldOf(int heap) {
    int best = -1;
    int least = 0;
    for (int tale = 0; tale < book.tales; tale++) {
      if (isInHeap(heap, tale)) {
        int sum = sumOfCosts(tale, heap);
        if (best < 0 || sum < least) {
          best = tale;
          least = sum;
        }
      }
    }
    return best;
  }

  private int sumOfCosts(int tale, int heap) {
    int sum = 0;
    for (int other = 0; other < book.tales; other++) {
      if (isInHeap(heap, other)) {
        sum += costs.known[tale * TALES + other];
      }
    }
    return sum;
  }

  /** The SOURCE of a tale, or -1. */
  private int sourceOf(int tale) {
    return book.prints[tale] >= 0 ? book.prints[tale] : cheapestBeside(tale, true);
  }

  /** The other tale (inTime: of those that could have come by then) of the least COST, or -1. */
  private int cheapestBeside(int tale, boolean inTime) {
    int best = -1;
    int least = 0;
    for (int other = 0; other < book.tales; other++) {
      if (other != tale && (!inTime || book.couldReach(other, tale))) {
        int price = costs.between(book, other, tale);
        if (best < 0 || price < least) {
          best = other;
          least = price;
        }
      }
    }
    return best;
  }

  private static boolean isWithin(int value, int bound) {
    return value >= 0 && value < bound;
  }

  private static boolean isInHeap(int heap, int tale) {
    return (heap >> tale & 1) == 1;
  }

  private static boolean isUnder(int kind, int upper) {
    return kind == upper || upper == TALE || (kind == RETOLD && upper == TORN);
  }

  private static boolean isStep(int motif, int who, int whom) {
    return isWithin(motif, MOTIFS) && isWithin(who, ROLES) && isWithin(whom, ROLES);
  }

  private static int packed(int motif, int who, int whom) {
    return motif << 4 | who << 2 | whom;
  }

  private static int motifOf(int step) {
    return step >> 4;
  }

  private static int whoOf(int step) {
    return (step & WHO_BITS) >> 2;
  }

  private static int whomOf(int step) {
    return step & WHOM_BITS;
  }

  /** Where a CARRYING leads a role. */
  private static int goal(int carrying, int role) {
    return carrying >> (12 - 4 * role) & 3;
  }

  /** All that undo brings back: tales, PRICES and WAYS. */
  private static final class Book {
    int tales;
    final int[] kinds = new int[TALES];
    final int[] places = new int[TALES];
    final int[] days = new int[TALES];
    final int[] prints = new int[TALES];
    final int[] lengths = new int[TALES];
    final int[] steps = new int[TALES * STEPS];
    final int[] prices = {4, 1, 3};
    final int[] ways = new int[PLACES * PLACES];

    void takeFrom(Book other) {
      tales = other.tales;
      System.arraycopy(other.kinds, 0, kinds, 0, TALES);
      System.arraycopy(other.places, 0, places, 0, TALES);
      System.arraycopy(other.days, 0, days, 0, TALES);
      System.arraycopy(other.prints, 0, prints, 0, TALES);
      System.arraycopy(other.lengths, 0, lengths, 0, TALES);
      System.arraycopy(other.steps, 0, steps, 0, TALES * STEPS);
      System.arraycopy(other.prices, 0, prices, 0, PRICES);
      System.arraycopy(other.ways, 0, ways, 0, PLACES * PLACES);
    }

    boolean hasTale(int tale) {
      return isWithin(tale, tales);
    }

    boolean hasStep(int tale, int i) {
      return hasTale(tale) && isWithin(i, lengths[tale]);
    }

    int stepAt(int tale, int i) {
      return steps[tale * STEPS + i];
    }

    int addTale(int kind, int place, int day) {
      int tale = tales;
      kinds[tale] = kind;
      places[tale] = place;
      days[tale] = day;
      prints[tale] = NO_TALE;
      lengths[tale] = 0;
      tales++;
      return tale;
    }

    void addStep(int tale, int step) {
      steps[tale * STEPS + lengths[tale]] = step;
      lengths[tale]++;
    }

    int changeMotif(int motif, int other) {
      int had = 0;
      for (int tale = 0; tale < tales; tale++) {
        for (int i = 0; i < lengths[tale]; i++) {
          int step = stepAt(tale, i);
          if (motifOf(step) == motif) {
            steps[tale * STEPS + i] = packed(other, whoOf(step), whomOf(step));
            had++;
          }
        }
      }
      return had;
    }

    boolean isTorn(int tale) {
      return isUnder(kinds[tale], TORN);
    }

    boolean isFramed(int tale) {
      return kinds[tale] == FRAME && lengths[tale] >= 2;
    }

    int firstLaid(int tale) {
      return isFramed(tale) ? 1 : 0;
    }

    int laidLength(int tale) {
      return isFramed(tale) ? lengths[tale] - 2 : lengths[tale];
    }

    /** Whether PRINTS lead from one tale (-1: none) to another one, itself too. */
    boolean printsLeadTo(int from, int goal) {
      int at = from;
      for (int hops = 0; hops < TALES && at >= 0; hops++) {
        if (at == goal) {
          return true;
        }
        at = prints[at];
      }
      return false;
    }

    int wayBetween(int place, int other) {
      return ways[place * PLACES + other];
    }

    void setWay(int place, int other, int took) {
      ways[place * PLACES + other] = took;
      ways[other * PLACES + place] = took;
    }

    boolean couldReach(int from, int to) {
      int way = wayBetween(places[from], places[to]);
      return days[from] < days[to] && days[from] + way <= days[to];
    }

    int howManySteps() {
      int sum = 0;
      for (int tale = 0; tale < tales; tale++) {
        sum += lengths[tale];
      }
      return sum;
    }

    int howOften(int motif, int tale) {
      int sum = 0;
      for (int i = 0; i < lengths[tale]; i++) {
        if (motifOf(stepAt(tale, i)) == motif) {
          sum++;
        }
      }
      return sum;
    }

    int howOftenAt(int motif, int place) {
      int sum = 0;
      for (int tale = 0; tale < tales; tale++) {
        if (isAt(tale, place)) {
          sum += howOften(motif, tale);
        }
      }
      return sum;
    }

    int doubtsAt(int place) {
      int sum = 0;
      for (int tale = 0; tale < tales; tale++) {
        if (isAt(tale, place) && isTorn(tale) && lengths[tale] < STEPS) {
          sum++;
        }
      }
      return sum;
    }

    boolean isAt(int tale, int place) {
      return place == EVERYWHERE || places[tale] == place;
    }
  }

  /** The books as they were ahead of the latest acts, in a ring whose rows are used again. */
  private static final class History {
    final Book[] books = new Book[KEPT_ACTS];
    int next;
    int kept;

    History() {
      for (int i = 0; i < KEPT_ACTS; i++) {
        books[i] = new Book();
      }
    }

    void keep(Book book) {
      books[next].takeFrom(book);
      next = next + 1 < KEPT_ACTS ? next + 1 : 0;
      kept = Math.min(kept + 1, KEPT_ACTS);
    }

    void giveBack(Book book) {
      next = next > 0 ? next - 1 : KEPT_ACTS - 1;
      book.takeFrom(books[next]);
      kept--;
    }
  }

  /** A row of STEPS as it is laid beside another one. */
  private static final class Row {
    final int[] steps = new int[STEPS];
    int length;
    boolean isTorn;

    void takeLaid(Book book, int tale) {
      takePart(book, tale, book.firstLaid(tale), book.laidLength(tale));
      isTorn = book.isTorn(tale);
    }

    void takePart(Book book, int tale, int from, int howMany) {
      System.arraycopy(book.steps, tale * STEPS + from, steps, 0, howMany);
      length = howMany;
      isTorn = false;
    }
  }

  /** Two rows beside one another: the least cost, THE CARRYING, and the pairs of THE LAYING. */
  private static final class Laying {
    static final int WIDTH = STEPS + 1;
    static final int ABOVE_ALL_COSTS = 1000000;

    final Row a = new Row();
    final Row b = new Row();
    final int[] carriedSteps = new int[STEPS];
    /** The least that the STEPS from i of a and from j of b on can cost, at i * WIDTH + j. */
    final int[] rests = new int[WIDTH * WIDTH];
    final int[] partners = new int[STEPS];
    int motifPrice;
    int rolePrice;
    int alonePrice;
    int leastCost;
    int carrying;

    void findLeast(int[] prices) {
      motifPrice = prices[UNLIKE_MOTIF];
      rolePrice = prices[UNLIKE_ROLE];
      alonePrice = prices[ALONE];
      leastCost = ABOVE_ALL_COSTS;
      for (int c = 0; c < CARRYINGS.length && leastCost > 0; c++) {
        carrySteps(CARRYINGS[c]);
        int price = fillRests(leastCost);
        if (price < leastCost) {
          leastCost = price;
          carrying = CARRYINGS[c];
        }
      }
    }

    void carrySteps(int by) {
      for (int i = 0; i < a.length; i++) {
        int step = a.steps[i];
        carriedSteps[i] = packed(motifOf(step), goal(by, whoOf(step)), goal(by, whomOf(step)));
      }
    }

    /** The least cost of the carried STEPS beside b; the bound, as soon as it can't be below that. */
    int fillRests(int bound) {
      for (int i = a.length; i >= 0; i--) {
        int least = ABOVE_ALL_COSTS;
        for (int j = b.length; j >= 0; j--) {
          int at = i * WIDTH + j;
          int best = endPrice(i, j);
          if (i < a.length && j < b.length) {
            best = Math.min(best, pairPrice(i, j) + rests[at + WIDTH + 1]);
            best = Math.min(best, alonePrice + Math.min(rests[at + WIDTH], rests[at + 1]));
          }
          rests[at] = best;
          least = Math.min(least, best);
        }
        // Every LAYING comes to a's STEP i at some STEP of b, and pays at least the rest from there.
        if (least >= bound) {
          return bound;
        }
      }
      return rests[0];
    }

    /** What the STEPS from i of a and from j of b on cost if no pair comes any more. */
    int endPrice(int i, int j) {
      int endOfA = b.isTorn ? 0 : (a.length - i) * alonePrice;
      int endOfB = a.isTorn ? 0 : (b.length - j) * alonePrice;
      return endOfA + endOfB;
    }

    int pairPrice(int i, int j) {
      int unlike = carriedSteps[i] ^ b.steps[j];
      int price = (unlike & MOTIF_BITS) != 0 ? motifPrice : 0;
      if ((unlike & WHO_BITS) != 0) {
        price += rolePrice;
      }
      return (unlike & WHOM_BITS) != 0 ? price + rolePrice : price;
    }

    /** Walks THE LAYING: at each place the first move behind which the least cost can still be. */
    void findPairs() {
      carrySteps(carrying);
      fillRests(ABOVE_ALL_COSTS);
      Arrays.fill(partners, -1);
      int i = 0;
      int j = 0;
      int paid = 0;
      int aloneSince = 0;
      boolean mayEnd = endPrice(0, 0) == leastCost;
      for (int moves = 0; moves < 2 * STEPS && i < a.length && j < b.length; moves++) {
        // Moves behind the latest pair are paid for only if another pair comes.
        int ifPaired = paid + aloneSince * alonePrice;
        int below = (i + 1) * WIDTH + j;
        if (ifPaired + pairPrice(i, j) + rests[below + 1] == leastCost) {
          paid = ifPaired + pairPrice(i, j);
          partners[i] = j;
          i++;
          j++;
          aloneSince = 0;
          mayEnd = paid + endPrice(i, j) == leastCost;
        } else {
          if (mayEnd || ifPaired + alonePrice + rests[below] == leastCost) {
            i++;
          } else {
            j++;
          }
          aloneSince++;
        }
      }
    }

    int howManyPairs(boolean alike) {
      int sum = 0;
      for (int i = 0; i < a.length; i++) {
        int j = partners[i];
        if (j >= 0 && (!alike || motifOf(a.steps[i]) == motifOf(b.steps[j]))) {
          sum++;
        }
      }
      return sum;
    }
  }

  /** COSTS of a book's tales; those that were reckoned are known until a tale or a PRICE changes. */
  private static final class Costs {
    final Laying laying = new Laying();
    /** COST(x, y) at x * TALES + y; below 0: not reckoned. */
    final int[] known = new int[TALES * TALES];

    Costs() {
      Arrays.fill(known, -1);
    }

    void forget(int tale) {
      for (int other = 0; other < TALES; other++) {
        known[tale * TALES + other] = -1;
        known[other * TALES + tale] = -1;
      }
    }

    void forgetAll() {
      Arrays.fill(known, -1);
    }

    int between(Book book, int x, int y) {
      int at = x * TALES + y;
      if (known[at] < 0) {
        laying.a.takeLaid(book, x);
        laying.b.takeLaid(book, y);
        laying.findLeast(book.prices);
        known[at] = laying.leastCost;
        // The same pairs by the CARRYING turned round cost the same, so COST(x, y) is COST(y, x).
        known[y * TALES + x] = laying.leastCost;
      }
      return known[at];
    }

    void reckonHeap(Book book, int heap) {
      for (int x = 0; x < book.tales; x++) {
        for (int y = x; y < book.tales; y++) {
          if (isInHeap(heap, x) && isInHeap(heap, y)) {
            between(book, x, y);
          }
        }
      }
    }

    /** The LAYING of two tales with THE CARRYING, which a known COST does not tell. */
    Laying layTales(Book book, int x, int y) {
      laying.a.takeLaid(book, x);
      laying.b.takeLaid(book, y);
      laying.findLeast(book.prices);
      return laying;
    }

    Laying pairTales(Book book, int x, int y) {
      layTales(book, x, y);
      laying.findPairs();
      return laying;
    }

    /** COST of a part of a tale, as a TALE, beside another tale. */
    int ofPart(Book book, int tale, int from, int howMany, int other) {
      laying.a.takePart(book, tale, from, howMany);
      laying.b.takeLaid(book, other);
      laying.findLeast(book.prices);
      return laying.leastCost;
    }
  }

  /** THE TREE of a heap; both COSTS of a LINK are the same, so that one of them is looked at. */
  private static final class Tree {
    final int[] parts = new int[TALES];
    final int[] branches = new int[TALES];
    int size;
    int sum;

    void grow(int[] links, int heap) {
      for (int tale = 0; tale < TALES; tale++) {
        parts[tale] = tale;
      }
      size = 0;
      sum = 0;
      int wanted = Integer.bitCount(heap) - 1;
      for (int i = 0; i < wanted && i < TALES; i++) {
        addBranch(links, heap);
      }
    }

    void addBranch(int[] links, int heap) {
      int best = -1;
      for (int lower = 0; lower < TALES; lower++) {
        for (int higher = lower + 1; higher < TALES; higher++) {
          boolean inHeap = isInHeap(heap, lower) && isInHeap(heap, higher);
          int link = lower * TALES + higher;
          if (inHeap && parts[lower] != parts[higher] && (best < 0 || links[link] < links[best])) {
            best = link;
          }
        }
      }
      if (best >= 0) {
        int lower = best / TALES;
        int higher = best % TALES;
        branches[size] = lower * BRANCH_BASE + higher;
        size++;
        sum += links[best];
        joinParts(parts[lower], parts[higher]);
      }
    }

    void joinParts(int part, int other) {
      for (int tale = 0; tale < TALES; tale++) {
        if (parts[tale] == other) {
          parts[tale] = part;
        }
      }
    }
  }

  /** What is BORROWED by one tale from another one. */
  private static final class Borrowing {
    final int[] goals = new int[ROLES];
    final int[] origins = new int[ROLES];
    int length;
    int fromA;
    int fromB;

    void find(Book book, int a, int b) {
      length = 0;
      for (int i = 0; i < book.lengths[a]; i++) {
        for (int j = 0; j < book.lengths[b]; j++) {
          int longest = Math.min(book.lengths[a] - i, book.lengths[b] - j);
          int same = sameFrom(book.steps, a * STEPS + i, b * STEPS + j, longest);
          if (same > length) {
            length = same;
            fromA = i;
            fromB = j;
          }
        }
      }
    }

    /** How many STEPS from two on are the same by one CARRYING; what it leaves open can always be filled. */
    int sameFrom(int[] steps, int i, int j, int longest) {
      Arrays.fill(goals, -1);
      Arrays.fill(origins, -1);
      int same = 0;
      while (same < longest && isSame(steps[i + same], steps[j + same])) {
        same++;
      }
      return same;
    }

    boolean isSame(int step, int other) {
      return motifOf(step) == motifOf(other)
          && leads(whoOf(step), whoOf(other))
          && leads(whomOf(step), whomOf(other));
    }

    boolean leads(int role, int goal) {
      if (goals[role] < 0 && origins[goal] < 0) {
        goals[role] = goal;
        origins[goal] = role;
      }
      return goals[role] == goal;
    }
  }

  /** A row of numbers; MISSING while it has no bits. */
  private static final class Sheet {
    int bits;
    int length;
    final int[] numbers = new int[NUMBERS];

    void makeAnew(int theBits, int n) {
      bits = theBits;
      length = theBits == 0 ? 0 : n;
      Arrays.fill(numbers, 0);
    }

    boolean isMissing() {
      return bits == 0;
    }

    void write(int i, int v) {
      numbers[i] = bits == 8 ? v & 0xFF : bits == 16 ? v & 0xFFFF : v;
    }

    boolean holds(int from, int n) {
      return from >= 0 && n >= 0 && n <= length - from;
    }

    int howManySteps() {
      return length / 3;
    }

    boolean tellsSteps() {
      for (int i = 0; i < howManySteps(); i++) {
        if (!isStep(numbers[3 * i], numbers[3 * i + 1], numbers[3 * i + 2])) {
          return false;
        }
      }
      return true;
    }

    int stepAt(int i) {
      return packed(numbers[3 * i], numbers[3 * i + 1], numbers[3 * i + 2]);
    }
  }
}
