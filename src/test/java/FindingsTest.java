import java.util.HashMap;
import java.util.List;
import java.util.Map;
import java.util.function.Supplier;
import java.util.function.ToIntFunction;

/**
 * "Each act tells its findings in the order in which they are asked; an act that answers a finding
 * changes nothing" (Terms), for every promise that has findings: a method of its own for each.
 * IN_ORDER: calls that earn two findings, and the one that is asked first. CHANGES_NOTHING: behind each
 * refused call a desk is compared with its twin that was not asked, in all that calls can tell.
 */
public final class FindingsTest extends Sentences {
  static final String IN_ORDER = "Each act tells its findings in the order in which they are asked";
  static final String CHANGES_NOTHING = "an act that answers a finding changes nothing";

  private static final Map<Supplier<TaleDesk>, List<String>> PORTRAITS = new HashMap<>();

  private static final Supplier<TaleDesk> NEW = TaleDesk::new;
  private static final Supplier<TaleDesk> RICH = FindingsTest::rich;
  private static final Supplier<TaleDesk> TEN_TALES = FindingsTest::tenTales;
  private static final Supplier<TaleDesk> TEN_STEPS = FindingsTest::tenSteps;
  private static final Supplier<TaleDesk> ROUND = FindingsTest::round;
  private static final Supplier<TaleDesk> SHEETS = FindingsTest::sheets;

  /** Tales of all kinds (0 TALE, 1 TORN, 2 FRAME, 3 and 4 RETOLD), 18 acts that undo can take back, sheets. */
  private static TaleDesk rich() {
    TaleDesk x = sheets();
    tellAt(x, TALE, 0, 10, 1, 0, 1, 2, 1, 2, 3, 2, 3);
    tellAt(x, TORN, 1, 20, 1, 2, 3, 2, 3, 0);
    tellAt(x, FRAME, 2, 30, 9, 3, 3, 2, 1, 0, 9, 3, 3);
    tellAt(x, RETOLD, 0, 40, 0, 0, 0);
    tellAt(x, RETOLD, 5, 999);
    x.print(4, 3);
    x.print(3, 1);
    x.price(0, 5);
    x.way(0, 1, 7);
    return x;
  }

  private static TaleDesk tenTales() {
    TaleDesk x = sheets();
    for (int i = 0; i < 10; i++) {
      x.tale(i % 4, i % 6, 100 * i);
      x.step(i, i, 0, 1);
    }
    return x;
  }

  private static TaleDesk tenSteps() {
    TaleDesk x = sheets();
    motifs(x, FRAME, 1, 2, 3, 4, 5, 6, 7, 8, 9, 10);
    motifs(x, TALE, 1, 2, 3, 4, 5, 6, 7, 8, 9, 10);
    motifs(x, RETOLD, 1);
    return x;
  }

  /** Two tales whose SOURCES go round. */
  private static TaleDesk round() {
    TaleDesk x = sheets();
    x.tale(RETOLD, 0, 5);
    x.tale(TALE, 0, 9);
    x.print(0, 1);
    return x;
  }

  /** Sheet 0 tells two STEPS, sheet 1 is of other bits, sheet 2 has a wrong number, sheet 3 is MISSING. */
  private static TaleDesk sheets() {
    TaleDesk x = new TaleDesk();
    write(x, 0, 8, 7, 1, 2, 8, 3, 0, 99, 99);
    write(x, 1, 16, 1, 2, 3, 4);
    write(x, 2, 8, 5, 1, 2, 6, 1, 4);
    return x;
  }

  /** A call must answer a finding, be counted once, and leave all as it was. */
  private static void refused(String call, Supplier<TaleDesk> made, ToIntFunction<TaleDesk> act, int finding) {
    TaleDesk x = made.get();
    int counted = x.all(2);
    due(call, act.applyAsInt(x), finding);
    due(call + " is counted", x.all(2), counted + 1);
    List<String> ahead = PORTRAITS.computeIfAbsent(made, Portrait::of);
    List<String> behind = Portrait.of(() -> {
      TaleDesk y = made.get();
      act.applyAsInt(y);
      return y;
    });
    holds(call + " changes nothing: " + Portrait.difference(ahead, behind), ahead.equals(behind));
  }

  /** That the portrait would show a change: each act that changes something must change it. */
  static void portraitsShowChanges() {
    sentence("Terms", CHANGES_NOTHING);
    List<String> ahead = Portrait.of(RICH);
    List<ToIntFunction<TaleDesk>> acts = List.of(
        x -> x.tale(0, 0, 0), x -> x.step(4, 0, 0, 0), x -> x.unstep(0), x -> x.print(4, -1),
        x -> x.recode(15, 14), x -> x.price(0, 5), x -> x.way(0, 1, 7), x -> x.lay(4, 0), x -> x.undo(),
        x -> x.sheet(3, 8, 0), x -> x.sheet(0, 0, 0), x -> x.sheet(1, 32, 4), x -> x.put(0, 0, 6),
        x -> x.put(2, 5, 3), x -> x.copy(0, 0, 2, 3, 1), x -> x.sheet(2, 8, 7));
    for (int i = 0; i < acts.size(); i++) {
      ToIntFunction<TaleDesk> act = acts.get(i);
      List<String> behind = Portrait.of(() -> {
        TaleDesk y = rich();
        act.applyAsInt(y);
        return y;
      });
      holds("act " + i + " shows", !ahead.equals(behind));
    }
  }

  static void tale() {
    sentence("2", CHANGES_NOTHING);
    refused("tale(4, 0, 0)", RICH, x -> x.tale(4, 0, 0), BEYOND);
    refused("tale(0, 6, 0)", RICH, x -> x.tale(0, 6, 0), BEYOND);
    refused("tale(0, 0, 1000)", RICH, x -> x.tale(0, 0, 1000), BEYOND);
    refused("tale(-1, 0, 0) of none", NEW, x -> x.tale(-1, 0, 0), BEYOND);
    refused("an eleventh tale", TEN_TALES, x -> x.tale(0, 0, 0), FULL);
    sentence("2", IN_ORDER);
    refused("BEYOND (kind) ahead of FULL", TEN_TALES, x -> x.tale(4, 0, 0), BEYOND);
    refused("BEYOND (place) ahead of FULL", TEN_TALES, x -> x.tale(0, -1, 0), BEYOND);
    refused("BEYOND (day) ahead of FULL", TEN_TALES, x -> x.tale(0, 0, 1000), BEYOND);
  }

  static void as() {
    sentence("3", CHANGES_NOTHING);
    refused("no such tale", RICH, x -> x.as(5, 0), BEYOND);
    refused("no such kind", RICH, x -> x.as(0, 4), BEYOND);
    refused("TALE as TORN", RICH, x -> x.as(0, TORN), KIND);
    sentence("3", IN_ORDER);
    refused("BEYOND (tale) ahead of KIND", RICH, x -> x.as(5, FRAME), BEYOND);
    refused("BEYOND (kind) ahead of KIND", RICH, x -> x.as(3, -1), BEYOND);
  }

  static void step() {
    sentence("4", CHANGES_NOTHING);
    refused("no such tale", RICH, x -> x.step(5, 0, 0, 0), BEYOND);
    refused("no such motif", RICH, x -> x.step(0, 16, 0, 0), BEYOND);
    refused("no such role", RICH, x -> x.step(0, 0, 4, 0), BEYOND);
    refused("no such role", RICH, x -> x.step(0, 0, 0, -1), BEYOND);
    refused("an eleventh STEP", TEN_STEPS, x -> x.step(1, 0, 0, 0), FULL);
    refused("an eleventh STEP ahead of another tale's", TEN_STEPS, x -> x.step(0, 0, 0, 0), FULL);
    sentence("4", IN_ORDER);
    refused("BEYOND (motif) ahead of FULL", TEN_STEPS, x -> x.step(1, 16, 0, 0), BEYOND);
    refused("BEYOND (who) ahead of FULL", TEN_STEPS, x -> x.step(1, 0, 4, 0), BEYOND);
    refused("BEYOND (to whom) ahead of FULL", TEN_STEPS, x -> x.step(1, 0, 0, 4), BEYOND);
  }

  static void unstep() {
    sentence("5", CHANGES_NOTHING);
    refused("no such tale", RICH, x -> x.unstep(5), BEYOND);
    refused("none left", RICH, x -> x.unstep(4), NONE);
    sentence("5", IN_ORDER);
    refused("BEYOND ahead of NONE", RICH, x -> x.unstep(-1), BEYOND);
    refused("BEYOND ahead of NONE, without tales", NEW, x -> x.unstep(0), BEYOND);
  }

  static void of() {
    sentence("6", CHANGES_NOTHING);
    refused("no such tale", RICH, x -> x.of(5, 0, 0), BEYOND);
    refused("no such STEP", RICH, x -> x.of(0, 3, 0), BEYOND);
    refused("no such what", RICH, x -> x.of(0, 0, 3), BEYOND);
  }

  static void told() {
    sentence("7", CHANGES_NOTHING);
    refused("no such tale", RICH, x -> x.told(5, 0), BEYOND);
    refused("another what", RICH, x -> x.told(0, 6), BEYOND);
  }

  static void print() {
    sentence("8", CHANGES_NOTHING);
    refused("no such tale", RICH, x -> x.print(5, 0), BEYOND);
    refused("no such other", RICH, x -> x.print(3, 5), BEYOND);
    refused("not RETOLD", RICH, x -> x.print(1, 0), KIND);
    refused("not RETOLD, none", RICH, x -> x.print(0, -1), KIND);
    refused("itself", RICH, x -> x.print(3, 3), RING);
    refused("round", RICH, x -> x.print(3, 4), RING);
    sentence("8", IN_ORDER);
    refused("BEYOND (other) ahead of KIND", RICH, x -> x.print(0, 5), BEYOND);
    refused("BEYOND (other) ahead of KIND", RICH, x -> x.print(2, -2), BEYOND);
    refused("BEYOND (tale) ahead of KIND and RING", RICH, x -> x.print(5, 5), BEYOND);
    refused("KIND ahead of RING (itself)", RICH, x -> x.print(0, 0), KIND);
    refused("KIND ahead of RING (round)", RICH, x -> x.print(1, 4), KIND);
  }

  static void recode() {
    sentence("9", CHANGES_NOTHING);
    refused("no such motif", RICH, x -> x.recode(16, 1), BEYOND);
    refused("no such motif", RICH, x -> x.recode(-1, 5), BEYOND);
    refused("no such other", RICH, x -> x.recode(1, 16), BEYOND);
    refused("no such other", RICH, x -> x.recode(1, -1), BEYOND);
  }

  static void price() {
    sentence("10", CHANGES_NOTHING);
    refused("no such PRICE", RICH, x -> x.price(3, 0), BEYOND);
    refused("v 10", RICH, x -> x.price(0, 10), BEYOND);
    refused("v -1", RICH, x -> x.price(2, -1), BEYOND);
  }

  static void way() {
    sentence("11", CHANGES_NOTHING);
    refused("no such place", RICH, x -> x.way(6, 0, 1), BEYOND);
    refused("no such other", RICH, x -> x.way(0, -1, 1), BEYOND);
    refused("days 1000", RICH, x -> x.way(0, 1, 1000), BEYOND);
    refused("one place", RICH, x -> x.way(1, 1, 5), SIZE);
    refused("one place with two tales", RICH, x -> x.way(0, 0, 999), SIZE);
    sentence("11", IN_ORDER);
    refused("BEYOND (places) ahead of SIZE", RICH, x -> x.way(6, 6, 1), BEYOND);
    refused("BEYOND (places) ahead of SIZE", RICH, x -> x.way(-1, -1, 1), BEYOND);
    refused("BEYOND (days) ahead of SIZE", RICH, x -> x.way(3, 3, 1000), BEYOND);
    refused("BEYOND (days) ahead of SIZE", RICH, x -> x.way(3, 3, -1), BEYOND);
  }

  static void cost() {
    sentence("12", CHANGES_NOTHING);
    refused("no such a", RICH, x -> x.cost(5, 0), BEYOND);
    refused("no such b", RICH, x -> x.cost(0, 5), BEYOND);
  }

  static void carried() {
    sentence("13", CHANGES_NOTHING);
    refused("no such a", RICH, x -> x.carried(5, 0, 0), BEYOND);
    refused("no such b", RICH, x -> x.carried(0, 5, 0), BEYOND);
    refused("no such role", RICH, x -> x.carried(0, 1, 4), BEYOND);
  }

  static void pair() {
    sentence("14", CHANGES_NOTHING);
    refused("no such a", RICH, x -> x.pair(5, 0, 0), BEYOND);
    refused("no such b", RICH, x -> x.pair(0, 5, 0), BEYOND);
    refused("no such STEP", RICH, x -> x.pair(0, 1, 3), BEYOND);
    refused("the first of a FRAME", RICH, x -> x.pair(2, 0, 0), KIND);
    refused("the last of a FRAME", RICH, x -> x.pair(2, 0, 2), KIND);
    sentence("14", IN_ORDER);
    refused("BEYOND (b) ahead of KIND", RICH, x -> x.pair(2, 5, 0), BEYOND);
    refused("BEYOND (b) ahead of KIND", RICH, x -> x.pair(2, -1, 2), BEYOND);
    refused("BEYOND (STEP) ahead of KIND", RICH, x -> x.pair(2, 0, 3), BEYOND);
    refused("BEYOND (STEP) ahead of KIND", RICH, x -> x.pair(2, 0, -1), BEYOND);
  }

  static void pairs() {
    sentence("15", CHANGES_NOTHING);
    refused("no such a", RICH, x -> x.pairs(5, 0, true), BEYOND);
    refused("no such b", RICH, x -> x.pairs(0, -1, false), BEYOND);
  }

  static void mould() {
    sentence("16", CHANGES_NOTHING);
    refused("a bit tells no tale", RICH, x -> x.mould(33), BEYOND);
    refused("empty", RICH, x -> x.mould(0), NONE);
    sentence("16", IN_ORDER);
    refused("BEYOND: none of its bits tells a tale", RICH, x -> x.mould(32), BEYOND);
    refused("BEYOND, without tales", NEW, x -> x.mould(-1), BEYOND);
    refused("NONE, without tales", NEW, x -> x.mould(0), NONE);
  }

  static void spread() {
    sentence("17", CHANGES_NOTHING);
    refused("a bit tells no tale", RICH, x -> x.spread(33), BEYOND);
    refused("empty", RICH, x -> x.spread(0), NONE);
    sentence("17", IN_ORDER);
    refused("BEYOND: none of its bits tells a tale", RICH, x -> x.spread(32), BEYOND);
    refused("BEYOND, without tales", NEW, x -> x.spread(-1), BEYOND);
    refused("NONE, without tales", NEW, x -> x.spread(0), NONE);
  }

  static void tree() {
    sentence("18", CHANGES_NOTHING);
    refused("a bit tells no tale", RICH, x -> x.tree(33), BEYOND);
    refused("empty", RICH, x -> x.tree(0), NONE);
    sentence("18", IN_ORDER);
    refused("BEYOND: none of its bits tells a tale", RICH, x -> x.tree(32), BEYOND);
    refused("BEYOND, without tales", NEW, x -> x.tree(-1), BEYOND);
    refused("NONE, without tales", NEW, x -> x.tree(0), NONE);
  }

  static void branch() {
    sentence("19", CHANGES_NOTHING);
    refused("a bit tells no tale", RICH, x -> x.branch(33, 0), BEYOND);
    refused("empty", RICH, x -> x.branch(0, 0), NONE);
    refused("no such pair", RICH, x -> x.branch(31, 4), NONE);
    sentence("19", IN_ORDER);
    refused("BEYOND ahead of NONE (no such pair)", RICH, x -> x.branch(33, 5), BEYOND);
    refused("BEYOND ahead of NONE (no such pair)", RICH, x -> x.branch(32, -1), BEYOND);
    refused("NONE: empty and no such pair", RICH, x -> x.branch(0, -1), NONE);
  }

  static void nearest() {
    sentence("20", CHANGES_NOTHING);
    refused("no such tale", RICH, x -> x.nearest(5), BEYOND);
    refused("no other one", () -> {
      TaleDesk x = sheets();
      motifs(x, TALE, 1);
      return x;
    }, x -> x.nearest(0), NONE);
    sentence("20", IN_ORDER);
    refused("BEYOND ahead of NONE", NEW, x -> x.nearest(0), BEYOND);
  }

  static void source() {
    sentence("21", CHANGES_NOTHING);
    refused("no such tale", RICH, x -> x.source(5), BEYOND);
    refused("there is none", RICH, x -> x.source(0), NONE);
    sentence("21", IN_ORDER);
    refused("BEYOND ahead of NONE", NEW, x -> x.source(0), BEYOND);
  }

  static void first() {
    sentence("22", CHANGES_NOTHING);
    refused("no such tale", RICH, x -> x.first(5), BEYOND);
    refused("they go round", ROUND, x -> x.first(0), RING);
    refused("they go round", ROUND, x -> x.first(1), RING);
    sentence("22", IN_ORDER);
    refused("BEYOND ahead of RING", ROUND, x -> x.first(2), BEYOND);
    refused("BEYOND ahead of RING", ROUND, x -> x.first(-1), BEYOND);
  }

  static void borrowed() {
    sentence("23", CHANGES_NOTHING);
    refused("no such a", RICH, x -> x.borrowed(5, 0, 0), BEYOND);
    refused("no such b", RICH, x -> x.borrowed(0, 5, 0), BEYOND);
    refused("no such what", RICH, x -> x.borrowed(0, 1, 3), BEYOND);
    refused("none of 1", RICH, x -> x.borrowed(0, 4, 1), NONE);
    refused("none of 2", RICH, x -> x.borrowed(0, 3, 2), NONE);
    sentence("23", IN_ORDER);
    refused("BEYOND (what) ahead of NONE", RICH, x -> x.borrowed(0, 4, 3), BEYOND);
    refused("BEYOND (a) ahead of NONE", RICH, x -> x.borrowed(5, 4, 1), BEYOND);
    refused("BEYOND (b) ahead of NONE", RICH, x -> x.borrowed(4, -1, 2), BEYOND);
  }

  static void joined() {
    sentence("24", CHANGES_NOTHING);
    refused("no such tale", RICH, x -> x.joined(5, 0, 1, false), BEYOND);
    refused("no such b", RICH, x -> x.joined(0, 5, 1, true), BEYOND);
    refused("no such c", RICH, x -> x.joined(0, 1, 5, false), BEYOND);
  }

  static void count() {
    sentence("25", CHANGES_NOTHING);
    refused("no such motif", RICH, x -> x.count(16, 0, false), BEYOND);
    refused("no such place", RICH, x -> x.count(0, 6, true), BEYOND);
  }

  static void home() {
    sentence("26", CHANGES_NOTHING);
    refused("no such motif", RICH, x -> x.home(16), BEYOND);
    refused("nowhere any", RICH, x -> x.home(15), NONE);
    sentence("26", IN_ORDER);
    refused("BEYOND ahead of NONE", NEW, x -> x.home(16), BEYOND);
    refused("BEYOND ahead of NONE", NEW, x -> x.home(-1), BEYOND);
  }

  static void sheet() {
    sentence("27", CHANGES_NOTHING);
    refused("no such sheet", RICH, x -> x.sheet(4, 8, 1), BEYOND);
    refused("no such bits", RICH, x -> x.sheet(0, 7, 1), BEYOND);
    refused("n -1", RICH, x -> x.sheet(0, 16, -1), SIZE);
    refused("n 31", RICH, x -> x.sheet(0, 16, 31), BEYOND);
    refused("n -1, to be MISSING", RICH, x -> x.sheet(1, 0, -1), SIZE);
    refused("n 31, to be MISSING", RICH, x -> x.sheet(1, 0, 31), BEYOND);
    refused("n 31 of one that is MISSING", RICH, x -> x.sheet(3, 8, 31), BEYOND);
    sentence("27", IN_ORDER);
    refused("BEYOND (sheet) ahead of SIZE", RICH, x -> x.sheet(4, 8, -1), BEYOND);
    refused("BEYOND (sheet) ahead of SIZE", RICH, x -> x.sheet(-1, 8, -1), BEYOND);
    refused("BEYOND (bits) ahead of SIZE", RICH, x -> x.sheet(0, 9, -1), BEYOND);
  }

  static void put() {
    sentence("28", CHANGES_NOTHING);
    refused("no such sheet", RICH, x -> x.put(4, 0, 1), BEYOND);
    refused("MISSING", RICH, x -> x.put(3, 0, 1), MISSING);
    refused("no such number", RICH, x -> x.put(0, 8, 1), BEYOND);
    refused("no such number", RICH, x -> x.put(1, -1, 1), BEYOND);
    sentence("28", IN_ORDER);
    refused("BEYOND (sheet) ahead of MISSING", NEW, x -> x.put(4, 0, 1), BEYOND);
    refused("BEYOND (sheet) ahead of MISSING", NEW, x -> x.put(-1, 0, 1), BEYOND);
    refused("MISSING ahead of BEYOND (number)", RICH, x -> x.put(3, -1, 1), MISSING);
    refused("MISSING ahead of BEYOND (number)", RICH, x -> x.put(3, 30, 1), MISSING);
  }

  static void copy() {
    sentence("29", CHANGES_NOTHING);
    refused("no such sheet to come from", RICH, x -> x.copy(4, 0, 0, 0, 1), BEYOND);
    refused("no such sheet to come to", RICH, x -> x.copy(0, 0, -1, 0, 1), BEYOND);
    refused("MISSING to come from", RICH, x -> x.copy(3, 0, 0, 0, 1), MISSING);
    refused("MISSING to come to", RICH, x -> x.copy(0, 0, 3, 0, 1), MISSING);
    refused("other bits", RICH, x -> x.copy(0, 0, 1, 0, 1), KIND);
    refused("not so many to come from", RICH, x -> x.copy(2, 1, 0, 0, 6), BEYOND);
    refused("not so many to come to", RICH, x -> x.copy(0, 0, 2, 1, 6), BEYOND);
    refused("from below 0", RICH, x -> x.copy(0, -1, 2, 0, 2), BEYOND);
    refused("to below 0", RICH, x -> x.copy(0, 0, 2, -1, 2), BEYOND);
    refused("n below 0", RICH, x -> x.copy(0, 0, 2, 0, -1), BEYOND);
  }

  static void copyInOrder() {
    sentence("29", IN_ORDER);
    refused("BEYOND (sheet) ahead of MISSING", RICH, x -> x.copy(4, 0, 3, 0, 1), BEYOND);
    refused("BEYOND (sheet) ahead of MISSING", RICH, x -> x.copy(3, 0, 4, 0, 1), BEYOND);
    refused("MISSING ahead of KIND", RICH, x -> x.copy(3, 0, 1, 0, 1), MISSING);
    refused("MISSING ahead of KIND", RICH, x -> x.copy(1, 0, 3, 0, 1), MISSING);
    refused("MISSING ahead of BEYOND (numbers)", RICH, x -> x.copy(0, -1, 3, 0, 99), MISSING);
    refused("KIND ahead of BEYOND (not so many)", RICH, x -> x.copy(0, 0, 1, 0, 5), KIND);
    refused("KIND ahead of BEYOND (from)", RICH, x -> x.copy(0, -1, 1, 0, 1), KIND);
    refused("KIND ahead of BEYOND (to)", RICH, x -> x.copy(0, 0, 1, -1, 1), KIND);
    refused("KIND ahead of BEYOND (n)", RICH, x -> x.copy(1, 0, 0, 0, -1), KIND);
  }

  static void lay() {
    sentence("30", CHANGES_NOTHING);
    refused("no such tale", RICH, x -> x.lay(5, 0), BEYOND);
    refused("no such sheet", RICH, x -> x.lay(0, 4), BEYOND);
    refused("MISSING", RICH, x -> x.lay(0, 3), MISSING);
    refused("the last number is not as told", RICH, x -> x.lay(0, 2), BEYOND);
    sentence("30", IN_ORDER);
    refused("BEYOND (tale) ahead of MISSING", RICH, x -> x.lay(5, 3), BEYOND);
    refused("BEYOND (tale) ahead of MISSING", SHEETS, x -> x.lay(0, 3), BEYOND);
    refused("BEYOND (sheet) ahead of MISSING", RICH, x -> x.lay(0, -1), BEYOND);
  }

  static void undo() {
    sentence("31", CHANGES_NOTHING);
    refused("a new object", NEW, TaleDesk::undo, NONE);
    refused("sheets alone", SHEETS, TaleDesk::undo, NONE);
    refused("all is undone", () -> {
      TaleDesk x = rich();
      for (int i = 0; i < 18; i++) {
        x.undo();
      }
      return x;
    }, TaleDesk::undo, NONE);
    refused("the latest twenty are undone", () -> {
      TaleDesk x = rich();
      for (int i = 0; i < 6; i++) {
        x.price(1, i);
      }
      for (int i = 0; i < 20; i++) {
        x.undo();
      }
      return x;
    }, TaleDesk::undo, NONE);
  }

  static void all() {
    sentence("32", CHANGES_NOTHING);
    refused("what 3", RICH, x -> x.all(3), BEYOND);
    refused("what -1", RICH, x -> x.all(-1), BEYOND);
  }

  public static void main(String[] args) throws ReflectiveOperationException {
    runAll(FindingsTest.class);
  }
}
