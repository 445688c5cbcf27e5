import java.util.ArrayDeque;
import java.util.ArrayList;
import java.util.Deque;
import java.util.List;

/**
 * The document once more, written for plainness alone and in another way than the program: LAYINGS
 * are built up pair by pair with their rows of moves, THE TREE by sorting, undo by whole copies.
 */
final class ReferenceDesk {
  private static final int BEYOND = Check.BEYOND;
  private static final int MISSING = Check.MISSING;
  private static final int SIZE = Check.SIZE;
  private static final int KIND = Check.KIND;
  private static final int FULL = Check.FULL;
  private static final int NONE = Check.NONE;
  private static final int RING = Check.RING;

  static final class Tale {
    int kind;
    int place;
    int day;
    int print = -1;
    List<int[]> steps = new ArrayList<>();

    Tale copied() {
      Tale t = new Tale();
      t.kind = kind;
      t.place = place;
      t.day = day;
      t.print = print;
      for (int[] s : steps) {
        t.steps.add(s.clone());
      }
      return t;
    }

    boolean torn() {
      return kind == 1 || kind == 3;
    }

    List<int[]> laid() {
      boolean framed = kind == 2 && steps.size() >= 2;
      return framed ? steps.subList(1, steps.size() - 1) : steps;
    }

    int shift() {
      return kind == 2 && steps.size() >= 2 ? 1 : 0;
    }
  }

  private static final class State {
    List<Tale> tales = new ArrayList<>();
    int[] prices = {4, 1, 3};
    int[][] ways = new int[6][6];

    State copied() {
      State s = new State();
      for (Tale t : tales) {
        s.tales.add(t.copied());
      }
      s.prices = prices.clone();
      for (int i = 0; i < 6; i++) {
        s.ways[i] = ways[i].clone();
      }
      return s;
    }
  }

  /** The cheapest LAYING of two rows: its cost, its CARRYING, and its moves (0 P, 1 A, 2 B). */
  static final class Laid {
    int cost;
    int[] carrying;
    String moves;
  }

  private State now = new State();
  private final Deque<State> before = new ArrayDeque<>();
  private final int[] bits = new int[4];
  private final int[][] sheets = new int[4][0];
  private int findings;

  /** Any call by its name; booleans are 0 and 1. */
  int call(String name, int... v) {
    int answer = answer(name, v);
    if (answer < -99999) {
      findings++;
    }
    return answer;
  }

  private int answer(String name, int[] v) {
    switch (name) {
      case "tale": return tale(v[0], v[1], v[2]);
      case "as": return as(v[0], v[1]);
      case "step": return step(v[0], v[1], v[2], v[3]);
      case "unstep": return unstep(v[0]);
      case "of": return of(v[0], v[1], v[2]);
      case "told": return told(v[0], v[1]);
      case "print": return print(v[0], v[1]);
      case "recode": return recode(v[0], v[1]);
      case "price": return price(v[0], v[1]);
      case "way": return way(v[0], v[1], v[2]);
      case "cost": return no(v[0]) || no(v[1]) ? BEYOND : cost(v[0], v[1]);
      case "carried": return no(v[0]) || no(v[1]) || out(v[2], 4) ? BEYOND : laid(v[0], v[1]).carrying[v[2]];
      case "pair": return pair(v[0], v[1], v[2]);
      case "pairs": return pairs(v[0], v[1], v[2] == 1);
      case "mould": return heap(v[0]) != 0 ? heap(v[0]) : mould(v[0])[0];
      case "spread": return heap(v[0]) != 0 ? heap(v[0]) : mould(v[0])[1];
      case "tree": return heap(v[0]) != 0 ? heap(v[0]) : treeSum(v[0]);
      case "branch": return branch(v[0], v[1]);
      case "nearest": return nearest(v[0]);
      case "source": return no(v[0]) ? BEYOND : source(v[0]) < 0 ? NONE : source(v[0]);
      case "first": return first(v[0]);
      case "borrowed": return borrowed(v[0], v[1], v[2]);
      case "joined": return joined(v[0], v[1], v[2], v[3] == 1);
      case "count": return out(v[0], 16) || v[1] != -1 && out(v[1], 6) ? BEYOND : count(v[0], v[1], v[2] == 1);
      case "home": return home(v[0]);
      case "sheet": return sheet(v[0], v[1], v[2]);
      case "put": return put(v[0], v[1], v[2]);
      case "copy": return copy(v[0], v[1], v[2], v[3], v[4]);
      case "lay": return lay(v[0], v[1]);
      case "undo": return undo();
      case "all": return all(v[0]);
      default: throw new IllegalArgumentException(name);
    }
  }

  private static boolean out(int v, int bound) {
    return v < 0 || v >= bound;
  }

  private boolean no(int tale) {
    return out(tale, now.tales.size());
  }

  private Tale at(int tale) {
    return now.tales.get(tale);
  }

  private void keep() {
    before.addLast(now.copied());
    if (before.size() > 20) {
      before.removeFirst();
    }
  }

  private int tale(int kind, int place, int day) {
    if (out(kind, 4) || out(place, 6) || out(day, 1000)) {
      return BEYOND;
    }
    if (now.tales.size() == 10) {
      return FULL;
    }
    keep();
    Tale t = new Tale();
    t.kind = kind;
    t.place = place;
    t.day = day;
    now.tales.add(t);
    return now.tales.size() - 1;
  }

  private int as(int tale, int kind) {
    if (no(tale) || out(kind, 4)) {
      return BEYOND;
    }
    int[] above = {-1, 0, 0, 1};
    for (int k = at(tale).kind; k >= 0; k = above[k]) {
      if (k == kind) {
        return tale;
      }
    }
    return KIND;
  }

  private int step(int tale, int motif, int who, int whom) {
    if (no(tale) || out(motif, 16) || out(who, 4) || out(whom, 4)) {
      return BEYOND;
    }
    if (at(tale).steps.size() == 10) {
      return FULL;
    }
    keep();
    at(tale).steps.add(new int[] {motif, who, whom});
    return at(tale).steps.size();
  }

  private int unstep(int tale) {
    if (no(tale)) {
      return BEYOND;
    }
    if (at(tale).steps.isEmpty()) {
      return NONE;
    }
    keep();
    at(tale).steps.remove(at(tale).steps.size() - 1);
    return at(tale).steps.size();
  }

  private int of(int tale, int i, int what) {
    if (no(tale) || out(i, at(tale).steps.size()) || out(what, 3)) {
      return BEYOND;
    }
    return at(tale).steps.get(i)[what];
  }

  private int told(int tale, int what) {
    if (no(tale) || out(what, 6)) {
      return BEYOND;
    }
    Tale t = at(tale);
    return new int[] {t.kind, t.place, t.day, t.steps.size(), t.laid().size(), t.print}[what];
  }

  private int print(int tale, int other) {
    if (no(tale) || other != -1 && no(other)) {
      return BEYOND;
    }
    if (at(tale).kind != 3) {
      return KIND;
    }
    for (int t = other; t != -1; t = at(t).print) {
      if (t == tale) {
        return RING;
      }
    }
    keep();
    int was = at(tale).print;
    at(tale).print = other;
    return was;
  }

  private int recode(int motif, int other) {
    if (out(motif, 16) || out(other, 16)) {
      return BEYOND;
    }
    keep();
    int had = 0;
    for (Tale t : now.tales) {
      for (int[] s : t.steps) {
        if (s[0] == motif) {
          s[0] = other;
          had++;
        }
      }
    }
    return had;
  }

  private int price(int which, int v) {
    if (out(which, 3) || out(v, 10)) {
      return BEYOND;
    }
    keep();
    int was = now.prices[which];
    now.prices[which] = v;
    return was;
  }

  private int way(int place, int other, int days) {
    if (out(place, 6) || out(other, 6) || out(days, 1000)) {
      return BEYOND;
    }
    if (place == other) {
      return SIZE;
    }
    keep();
    int was = now.ways[place][other];
    now.ways[place][other] = days;
    now.ways[other][place] = days;
    return was;
  }

  static List<int[]> carryings() {
    List<int[]> all = new ArrayList<>();
    for (int n = 0; n < 256; n++) {
      int[] c = {n / 64, n / 16 % 4, n / 4 % 4, n % 4};
      if ((1 << c[0] | 1 << c[1] | 1 << c[2] | 1 << c[3]) == 15) {
        all.add(c);
      }
    }
    return all;
  }

  private static final List<int[]> CARRYINGS = carryings();

  private int pairCost(int[] s, int[] t, int[] c) {
    return (s[0] == t[0] ? 0 : now.prices[0])
        + (c[s[1]] == t[1] ? 0 : now.prices[1])
        + (c[s[2]] == t[2] ? 0 : now.prices[1]);
  }

  /** For each last pair the cheapest way to it, and of several that whose moves come first. */
  private Laid layBy(List<int[]> a, boolean aTorn, List<int[]> b, boolean bTorn, int[] c) {
    int m = a.size();
    int n = b.size();
    int alone = now.prices[2];
    int[][] cost = new int[m + 1][n + 1];
    String[][] moves = new String[m + 1][n + 1];
    moves[0][0] = "";
    Laid best = null;
    for (int i = 0; i <= m; i++) {
      for (int j = 0; j <= n; j++) {
        if (i > 0 && j > 0) {
          int here = pairCost(a.get(i - 1), b.get(j - 1), c);
          for (int p = 0; p < i; p++) {
            for (int q = 0; q < j; q++) {
              if (moves[p][q] == null) {
                continue;
              }
              int sum = cost[p][q] + (i - 1 - p + j - 1 - q) * alone + here;
              String row = moves[p][q] + "1".repeat(i - 1 - p) + "2".repeat(j - 1 - q) + "0";
              if (moves[i][j] == null || sum < cost[i][j]
                  || sum == cost[i][j] && row.compareTo(moves[i][j]) < 0) {
                cost[i][j] = sum;
                moves[i][j] = row;
              }
            }
          }
        }
        if (moves[i][j] != null) {
          int sum = cost[i][j] + (bTorn ? 0 : (m - i) * alone) + (aTorn ? 0 : (n - j) * alone);
          String row = moves[i][j] + "1".repeat(m - i) + "2".repeat(n - j);
          if (best == null || sum < best.cost || sum == best.cost && row.compareTo(best.moves) < 0) {
            best = new Laid();
            best.cost = sum;
            best.moves = row;
            best.carrying = c;
          }
        }
      }
    }
    return best;
  }

  private Laid layRows(List<int[]> a, boolean aTorn, List<int[]> b, boolean bTorn) {
    Laid best = null;
    for (int[] c : CARRYINGS) {
      Laid laid = layBy(a, aTorn, b, bTorn, c);
      if (best == null || laid.cost < best.cost) {
        best = laid;
      }
    }
    return best;
  }

  private Laid laid(int a, int b) {
    return layRows(at(a).laid(), at(a).torn(), at(b).laid(), at(b).torn());
  }

  private int cost(int a, int b) {
    return laid(a, b).cost;
  }

  /** Pairs of THE LAYING as places among the LAID STEPS. */
  private List<int[]> pairsOf(int a, int b) {
    List<int[]> pairs = new ArrayList<>();
    int i = 0;
    int j = 0;
    for (char move : laid(a, b).moves.toCharArray()) {
      if (move == '0') {
        pairs.add(new int[] {i, j});
      }
      i += move != '2' ? 1 : 0;
      j += move != '1' ? 1 : 0;
    }
    return pairs;
  }

  private int pair(int a, int b, int i) {
    if (no(a) || no(b) || out(i, at(a).steps.size())) {
      return BEYOND;
    }
    if (at(a).kind == 2 && at(a).steps.size() >= 2 && (i == 0 || i == at(a).steps.size() - 1)) {
      return KIND;
    }
    for (int[] p : pairsOf(a, b)) {
      if (p[0] + at(a).shift() == i) {
        return p[1] + at(b).shift();
      }
    }
    return -1;
  }

  private int pairs(int a, int b, boolean like) {
    if (no(a) || no(b)) {
      return BEYOND;
    }
    int sum = 0;
    for (int[] p : pairsOf(a, b)) {
      if (!like || at(a).laid().get(p[0])[0] == at(b).laid().get(p[1])[0]) {
        sum++;
      }
    }
    return sum;
  }

  private List<Integer> members(int heap) {
    List<Integer> in = new ArrayList<>();
    for (int bit = 0; bit < 32; bit++) {
      if ((heap & 1 << bit) != 0) {
        in.add(bit);
      }
    }
    return in;
  }

  private int heap(int heap) {
    for (int t : members(heap)) {
      if (no(t)) {
        return BEYOND;
      }
    }
    return heap == 0 ? NONE : 0;
  }

  private int[] mould(int heap) {
    int[] best = null;
    for (int t : members(heap)) {
      int sum = 0;
      for (int u : members(heap)) {
        sum += cost(t, u);
      }
      if (best == null || sum < best[1]) {
        best = new int[] {t, sum};
      }
    }
    return best;
  }

  /** THE TREE: all pairs sorted by LINK (their order stays otherwise), each taken if it makes no round. */
  private List<int[]> treeOf(int heap) {
    List<int[]> links = new ArrayList<>();
    for (int t : members(heap)) {
      for (int u : members(heap)) {
        if (t < u) {
          links.add(new int[] {t, u, Math.min(cost(t, u), cost(u, t))});
        }
      }
    }
    links.sort((p, q) -> Integer.compare(p[2], q[2]));
    int[] root = {0, 1, 2, 3, 4, 5, 6, 7, 8, 9};
    List<int[]> tree = new ArrayList<>();
    for (int[] link : links) {
      int t = link[0];
      int u = link[1];
      while (root[t] != t) {
        t = root[t];
      }
      while (root[u] != u) {
        u = root[u];
      }
      if (t != u) {
        root[t] = u;
        tree.add(link);
      }
    }
    return tree;
  }

  private int treeSum(int heap) {
    int sum = 0;
    for (int[] link : treeOf(heap)) {
      sum += link[2];
    }
    return sum;
  }

  private int branch(int heap, int i) {
    if (heap(heap) != 0) {
      return heap(heap);
    }
    List<int[]> tree = treeOf(heap);
    return out(i, tree.size()) ? NONE : 16 * tree.get(i)[0] + tree.get(i)[1];
  }

  private int nearest(int tale) {
    if (no(tale)) {
      return BEYOND;
    }
    int best = NONE;
    for (int t = 0; t < now.tales.size(); t++) {
      if (t != tale && (best == NONE || cost(t, tale) < cost(best, tale))) {
        best = t;
      }
    }
    return best;
  }

  private int source(int tale) {
    if (at(tale).kind == 3 && at(tale).print != -1) {
      return at(tale).print;
    }
    int best = -1;
    for (int t = 0; t < now.tales.size(); t++) {
      int way = now.ways[at(t).place][at(tale).place];
      boolean could = t != tale && at(t).day < at(tale).day && at(t).day + way <= at(tale).day;
      if (could && (best < 0 || cost(t, tale) < cost(best, tale))) {
        best = t;
      }
    }
    return best;
  }

  private int first(int tale) {
    if (no(tale)) {
      return BEYOND;
    }
    List<Integer> met = new ArrayList<>();
    int t = tale;
    while (source(t) >= 0) {
      if (met.contains(t)) {
        return RING;
      }
      met.add(t);
      t = source(t);
    }
    return t;
  }

  private boolean isBorrowed(int a, int i, int b, int j, int n) {
    for (int[] c : CARRYINGS) {
      boolean same = true;
      for (int k = 0; k < n; k++) {
        int[] s = at(a).steps.get(i + k);
        int[] t = at(b).steps.get(j + k);
        same &= s[0] == t[0] && c[s[1]] == t[1] && c[s[2]] == t[2];
      }
      if (same) {
        return true;
      }
    }
    return false;
  }

  private int borrowed(int a, int b, int what) {
    if (no(a) || no(b) || out(what, 3)) {
      return BEYOND;
    }
    int m = at(a).steps.size();
    int k = at(b).steps.size();
    for (int n = Math.min(m, k); n > 0; n--) {
      for (int i = 0; i + n <= m; i++) {
        for (int j = 0; j + n <= k; j++) {
          if (isBorrowed(a, i, b, j, n)) {
            return new int[] {n, i, j}[what];
          }
        }
      }
    }
    return what == 0 ? 0 : NONE;
  }

  private int joined(int tale, int b, int c, boolean price) {
    if (no(tale) || no(b) || no(c)) {
      return BEYOND;
    }
    List<int[]> steps = at(tale).steps;
    int place = -1;
    int least = 0;
    for (int k = 0; k <= steps.size(); k++) {
      int sum = layRows(steps.subList(0, k), false, at(b).laid(), at(b).torn()).cost
          + layRows(steps.subList(k, steps.size()), false, at(c).laid(), at(c).torn()).cost;
      if (place < 0 || sum < least) {
        place = k;
        least = sum;
      }
    }
    return price ? least : place;
  }

  private int count(int motif, int place, boolean most) {
    int sum = 0;
    for (Tale t : now.tales) {
      if (place == -1 || t.place == place) {
        for (int[] s : t.steps) {
          sum += s[0] == motif ? 1 : 0;
        }
        sum += most && t.torn() && t.steps.size() < 10 ? 1 : 0;
      }
    }
    return sum;
  }

  private int home(int motif) {
    if (out(motif, 16)) {
      return BEYOND;
    }
    int best = 0;
    for (int p = 1; p < 6; p++) {
      best = count(motif, p, false) > count(motif, best, false) ? p : best;
    }
    return count(motif, best, false) == 0 ? NONE : best;
  }

  private int sheet(int s, int width, int n) {
    if (out(s, 4) || width != 0 && width != 8 && width != 16 && width != 32) {
      return BEYOND;
    }
    if (n < 0) {
      return SIZE;
    }
    if (n > 30) {
      return BEYOND;
    }
    bits[s] = width;
    sheets[s] = new int[width == 0 ? 0 : n];
    return sheets[s].length;
  }

  private int put(int s, int i, int v) {
    if (out(s, 4)) {
      return BEYOND;
    }
    if (bits[s] == 0) {
      return MISSING;
    }
    if (out(i, sheets[s].length)) {
      return BEYOND;
    }
    sheets[s][i] = bits[s] == 8 ? (byte) v : bits[s] == 16 ? (short) v : v;
    return 0;
  }

  private int copy(int s, int from, int t, int to, int n) {
    if (out(s, 4) || out(t, 4)) {
      return BEYOND;
    }
    if (bits[s] == 0 || bits[t] == 0) {
      return MISSING;
    }
    if (bits[s] != bits[t]) {
      return KIND;
    }
    if (from < 0 || to < 0 || n < 0 || (long) from + n > sheets[s].length || (long) to + n > sheets[t].length) {
      return BEYOND;
    }
    int[] were = sheets[s].clone();
    for (int i = 0; i < n; i++) {
      sheets[t][to + i] = were[from + i];
    }
    return n;
  }

  private int lay(int tale, int s) {
    if (no(tale) || out(s, 4)) {
      return BEYOND;
    }
    if (bits[s] == 0) {
      return MISSING;
    }
    List<int[]> steps = new ArrayList<>();
    for (int i = 0; i + 3 <= sheets[s].length; i += 3) {
      int[] step = {sheets[s][i], sheets[s][i + 1], sheets[s][i + 2]};
      if (out(step[0], 16) || out(step[1], 4) || out(step[2], 4)) {
        return BEYOND;
      }
      steps.add(step);
    }
    keep();
    at(tale).steps = steps;
    return steps.size();
  }

  private int undo() {
    if (before.isEmpty()) {
      return NONE;
    }
    now = before.removeLast();
    return before.size();
  }

  private int all(int what) {
    int steps = 0;
    for (Tale t : now.tales) {
      steps += t.steps.size();
    }
    return what == 0 ? now.tales.size() : what == 1 ? steps : what == 2 ? findings : BEYOND;
  }
}
