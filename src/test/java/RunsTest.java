import java.lang.reflect.Method;
import java.util.Arrays;
import java.util.HashMap;
import java.util.Map;
import java.util.Random;

/** Runs of calls, drawn with fixed seeds, asked of the program and of the reference alike. */
public final class RunsTest {
  private static final String[] CHANGES = {
    "tale", "step", "step", "step", "step", "step", "unstep", "print", "recode", "price", "way",
    "sheet", "put", "put", "put", "copy", "lay", "undo"};
  private static final String[] LOOKS = {
    "as", "of", "told", "cost", "cost", "carried", "carried", "pair", "pair", "pairs", "mould", "spread",
    "tree", "branch", "nearest", "source", "first", "first", "borrowed", "borrowed", "joined", "count",
    "home", "all"};
  private static final int[] FAR = {
    -2, -1, Integer.MIN_VALUE, Integer.MAX_VALUE, 4, 6, 10, 16, 31, 1000, 1024, Integer.MIN_VALUE + 1};

  /** Each of them is followed by all(0), and an object is used for at most 512. */
  private static final int CALLS = 256;

  private final Random random;
  private final int motifs;
  private final int roles;
  /** How many calls at first make tales and STEPS alone, so that some runs have full tales. */
  private final int filling;
  private int tales;

  private RunsTest(long seed) {
    random = new Random(seed);
    int[] some = {2, 3, 5, 16};
    motifs = some[random.nextInt(4)];
    roles = 2 + random.nextInt(3);
    filling = random.nextInt(100);
  }

  private int below(int bound) {
    return random.nextInt(bound);
  }

  private int aTale() {
    return below(Math.max(tales, 1));
  }

  private int aHeap() {
    int heap = tales == 0 ? 0 : 1 + below((1 << tales) - 1);
    return below(4) == 0 ? (1 << tales) - 1 : heap;
  }

  private int pick(int... some) {
    return some[below(some.length)];
  }

  private int[] argumentsOf(String name) {
    switch (name) {
      case "tale": return new int[] {below(4), below(6), pick(below(1000), below(10))};
      case "as": return new int[] {aTale(), below(4)};
      case "step": return new int[] {aTale(), below(motifs), below(roles), below(roles)};
      case "of": return new int[] {aTale(), below(5), below(3)};
      case "told": return new int[] {aTale(), below(6)};
      case "print": return new int[] {aTale(), below(5) == 0 ? -1 : aTale()};
      case "recode": return new int[] {below(motifs), below(motifs)};
      case "price": return new int[] {below(3), below(10)};
      case "way": return new int[] {below(6), below(6), pick(below(1000), below(10))};
      case "cost": return new int[] {aTale(), aTale()};
      case "carried": return new int[] {aTale(), aTale(), below(4)};
      case "pair": return new int[] {aTale(), aTale(), below(8)};
      case "pairs": return new int[] {aTale(), aTale(), below(2)};
      case "branch": return new int[] {aHeap(), below(9)};
      case "borrowed": return new int[] {aTale(), aTale(), below(3)};
      case "joined": return new int[] {aTale(), aTale(), aTale(), below(2)};
      case "count": return new int[] {below(motifs), below(7) - 1, below(2)};
      case "home": return new int[] {below(motifs)};
      case "sheet": return new int[] {below(4), pick(0, 8, 8, 16, 32), below(31)};
      case "put": return new int[] {below(4), below(30), pick(below(4), below(4) + 256, below(1 << 17))};
      case "copy": return new int[] {below(4), below(10), below(4), below(10), below(12)};
      case "lay": return new int[] {aTale(), below(4)};
      case "undo": return new int[0];
      case "all": return new int[] {below(3)};
      case "mould": case "spread": case "tree": return new int[] {aHeap()};
      default: return new int[] {aTale()};
    }
  }

  private void run(Check check, long seed, int looksIn, Map<String, Method> methods)
      throws ReflectiveOperationException {
    TaleDesk desk = new TaleDesk();
    ReferenceDesk reference = new ReferenceDesk();
    StringBuilder told = new StringBuilder();
    for (int i = 0; i < CALLS; i++) {
      String[] from = below(looksIn) != 0 ? LOOKS : CHANGES;
      String name = i < filling ? (tales < 6 ? "tale" : "step") : from[below(from.length)];
      int[] v = argumentsOf(name);
      boolean flag = name.equals("pairs") || name.equals("joined") || name.equals("count");
      int numbers = flag ? v.length - 1 : v.length;
      if (numbers > 0 && below(25) == 0) {
        v[below(numbers)] = pick(FAR);
      }
      Object[] given = new Object[v.length];
      for (int k = 0; k < v.length; k++) {
        given[k] = flag && k == v.length - 1 ? (Object) (v[k] == 1) : (Object) v[k];
      }
      int got = (Integer) methods.get(name).invoke(desk, given);
      int want = reference.call(name, v);
      told.append(name).append(Arrays.toString(v)).append(" = ").append(want).append('\n');
      if (got != want) {
        System.out.println(told);
      }
      check.due("run " + seed + ", call " + i + " " + name + Arrays.toString(v), got, want);
      if (got != want) {
        return;
      }
      tales = desk.all(0);
      reference.call("all", 0);
    }
  }

  public static void main(String[] args) throws ReflectiveOperationException {
    Map<String, Method> methods = new HashMap<>();
    for (Method m : TaleDesk.class.getDeclaredMethods()) {
      methods.put(m.getName(), m);
    }
    int runs = args.length > 0 ? Integer.parseInt(args[0]) : 80;
    int start = args.length > 1 ? Integer.parseInt(args[1]) : 0;
    Check check = new Check();
    for (long seed = start; seed < start + runs && check.howManyWrong() < 3; seed++) {
      new RunsTest(seed).run(check, seed, 2 + (int) (seed % 4), methods);
    }
    check.end("RunsTest");
  }
}
