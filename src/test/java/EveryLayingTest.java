import java.util.ArrayList;
import java.util.List;
import java.util.Random;

/** COST, THE CARRYING and THE LAYING of short tales, by looking at every LAYING by every CARRYING. */
public final class EveryLayingTest {
  private static final Check CHECK = new Check();
  private static final int[] PRICES = new int[3];

  /** All rows of moves over m and n STEPS, P ahead of A ahead of B. */
  private static void rows(int m, int n, String soFar, List<String> all) {
    if (m == 0 && n == 0) {
      all.add(soFar);
    }
    if (m > 0 && n > 0) {
      rows(m - 1, n - 1, soFar + "P", all);
    }
    if (m > 0) {
      rows(m - 1, n, soFar + "A", all);
    }
    if (n > 0) {
      rows(m, n - 1, soFar + "B", all);
    }
  }

  private static int costOf(String row, int[][] a, boolean aTorn, int[][] b, boolean bTorn, int[] c) {
    int lastPair = row.lastIndexOf('P');
    int cost = 0;
    int i = 0;
    int j = 0;
    for (int k = 0; k < row.length(); k++) {
      char move = row.charAt(k);
      if (move == 'P') {
        cost += a[i][0] != b[j][0] ? PRICES[0] : 0;
        cost += c[a[i][1]] != b[j][1] ? PRICES[1] : 0;
        cost += c[a[i][2]] != b[j][2] ? PRICES[1] : 0;
        i++;
        j++;
      } else if (move == 'A') {
        cost += k > lastPair && bTorn ? 0 : PRICES[2];
        i++;
      } else {
        cost += k > lastPair && aTorn ? 0 : PRICES[2];
        j++;
      }
    }
    return cost;
  }

  private static int[][] someSteps(Random random, int howMany, int motifs, int roles) {
    int[][] steps = new int[howMany][];
    for (int i = 0; i < howMany; i++) {
      steps[i] = new int[] {random.nextInt(motifs), random.nextInt(roles), random.nextInt(roles)};
    }
    return steps;
  }

  private static int tell(TaleDesk x, int kind, int[][] steps) {
    int tale = x.tale(kind, 0, 0);
    if (kind == 2) {
      x.step(tale, 15, 3, 3);
    }
    for (int[] s : steps) {
      x.step(tale, s[0], s[1], s[2]);
    }
    if (kind == 2) {
      x.step(tale, 14, 2, 2);
    }
    return tale;
  }

  private static void one(long seed) {
    Random random = new Random(seed);
    int motifs = 1 + random.nextInt(3);
    int roles = 1 + random.nextInt(4);
    int[][] a = someSteps(random, random.nextInt(5), motifs, roles);
    int[][] b = someSteps(random, random.nextInt(5), motifs, roles);
    int kindA = random.nextInt(4);
    int kindB = random.nextInt(4);
    TaleDesk x = new TaleDesk();
    for (int p = 0; p < 3; p++) {
      PRICES[p] = random.nextInt(random.nextBoolean() ? 3 : 10);
      x.price(p, PRICES[p]);
    }
    int ta = tell(x, kindA, a);
    int tb = tell(x, kindB, b);
    List<String> all = new ArrayList<>();
    rows(a.length, b.length, "", all);
    int least = Integer.MAX_VALUE;
    int[] carrying = null;
    String laying = null;
    for (int[] c : ReferenceDesk.carryings()) {
      for (String row : all) {
        int cost = costOf(row, a, kindA % 2 == 1, b, kindB % 2 == 1, c);
        if (cost < least) {
          least = cost;
          carrying = c;
          laying = row;
        }
      }
    }
    CHECK.due("seed " + seed + " cost", x.cost(ta, tb), least);
    CHECK.due("seed " + seed + " cost turned round", x.cost(tb, ta), least);
    for (int role = 0; role < 4; role++) {
      CHECK.due("seed " + seed + " carried " + role, x.carried(ta, tb, role), carrying[role]);
    }
    comparePairs(seed, x, laying, kindA == 2 ? 1 : 0, kindB == 2 ? 1 : 0);
  }

  private static void comparePairs(long seed, TaleDesk x, String laying, int shiftA, int shiftB) {
    int i = 0;
    int j = 0;
    int pairs = 0;
    for (char move : laying.toCharArray()) {
      if (move != 'B') {
        int want = move == 'P' ? j + shiftB : -1;
        CHECK.due("seed " + seed + " pair " + i + " of " + laying, x.pair(0, 1, i + shiftA), want);
        i++;
      }
      j += move != 'A' ? 1 : 0;
      pairs += move == 'P' ? 1 : 0;
    }
    CHECK.due("seed " + seed + " pairs of " + laying, x.pairs(0, 1, false), pairs);
  }

  public static void main(String[] args) {
    int runs = args.length > 0 ? Integer.parseInt(args[0]) : 2000;
    for (long seed = 0; seed < runs; seed++) {
      one(seed);
    }
    CHECK.end("EveryLayingTest");
  }
}
