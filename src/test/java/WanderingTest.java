/** Promises 21 to 26: SOURCES, what is BORROWED, JOINED tales, and COUNTS. */
public final class WanderingTest {
  private static final Check CHECK = new Check();

  private static void due(String what, int got, int want) {
    CHECK.due(what, got, want);
  }

  private static void steps(TaleDesk x, int tale, int... steps) {
    for (int i = 0; i + 2 < steps.length; i += 3) {
      x.step(tale, steps[i], steps[i + 1], steps[i + 2]);
    }
  }

  private static void source() {
    TaleDesk x = new TaleDesk();
    due("21 no tale", x.source(0), Check.BEYOND);
    x.tale(0, 0, 50);
    due("21 alone", x.source(0), Check.NONE);
    x.tale(0, 1, 50);
    due("21 the same day is not ahead", x.source(0), Check.NONE);
    x.tale(0, 1, 49);
    due("21 a day ahead", x.source(0), 2);
    due("21 later ones are none", x.source(2), Check.NONE);
    x.way(0, 1, 2);
    due("21 the way is too long", x.source(0), Check.NONE);
    x.way(1, 0, 1);
    due("21 the way is just short enough", x.source(0), 2);
    x.tale(0, 0, 3);
    due("21 of several the least", x.source(0), 2);
    steps(x, 0, 1, 0, 1);
    steps(x, 3, 1, 2, 3);
    due("21 the least cost", x.source(0), 3);
    x.way(0, 2, 999);
    x.way(0, 1, 500);
    x.tale(0, 2, 0);
    due("21 no way round", x.source(0), 3);
    due("21 the same place", x.source(3), Check.NONE);
    due("21 beyond", x.source(-1), Check.BEYOND);
    due("21 beyond", x.source(5), Check.BEYOND);
  }

  private static void printIsSource() {
    TaleDesk x = new TaleDesk();
    x.tale(3, 0, 5);
    x.tale(0, 0, 4);
    x.tale(0, 5, 900);
    due("21 by days", x.source(0), 1);
    x.print(0, 2);
    due("21 by print", x.source(0), 2);
    x.print(0, -1);
    due("21 by days again", x.source(0), 1);
    due("21 tale 0", x.source(2), 0);
  }

  private static void first() {
    TaleDesk x = new TaleDesk();
    due("22 no tale", x.first(0), Check.BEYOND);
    x.tale(3, 0, 5);
    due("22 itself", x.first(0), 0);
    x.tale(0, 0, 9);
    due("22 by days", x.first(1), 0);
    due("22 the first one", x.first(0), 0);
    x.print(0, 1);
    due("22 ring", x.first(0), Check.RING);
    due("22 ring", x.first(1), Check.RING);
    x.tale(3, 0, 0);
    x.print(2, 0);
    due("22 into a ring", x.first(2), Check.RING);
    due("22 beyond", x.first(3), Check.BEYOND);
    due("22 beyond", x.first(-1), Check.BEYOND);

    TaleDesk row = new TaleDesk();
    for (int i = 0; i < 10; i++) {
      row.tale(3, 0, 0);
      if (i > 0) {
        row.print(i, i - 1);
      }
    }
    due("22 ten in a row", row.first(9), 0);
  }

  private static void borrowed() {
    TaleDesk x = new TaleDesk();
    x.tale(2, 0, 0);
    x.tale(0, 0, 0);
    due("23 nothing", x.borrowed(0, 1, 0), 0);
    due("23 nothing", x.borrowed(0, 1, 1), Check.NONE);
    due("23 nothing", x.borrowed(0, 1, 2), Check.NONE);
    steps(x, 0, 1, 0, 1, 2, 1, 2, 3, 2, 0, 1, 0, 1);
    steps(x, 1, 9, 0, 0, 2, 3, 1, 3, 1, 0, 9, 0, 0, 1, 1, 2);
    due("23 how many", x.borrowed(0, 1, 0), 2);
    due("23 from a's", x.borrowed(0, 1, 1), 1);
    due("23 from b's", x.borrowed(0, 1, 2), 1);
    due("23 a frame's own, whole", x.borrowed(0, 0, 0), 4);
    due("23 a frame's own, whole", x.borrowed(0, 0, 1), 0);
    due("23 what", x.borrowed(0, 1, 3), Check.BEYOND);
    due("23 what", x.borrowed(0, 1, -1), Check.BEYOND);
    due("23 tale", x.borrowed(0, 2, 0), Check.BEYOND);
    due("23 tale", x.borrowed(-1, 1, 0), Check.BEYOND);
    x.tale(0, 0, 0);
    steps(x, 2, 1, 2, 2, 1, 0, 3, 9, 0, 0, 1, 3, 0);
    due("23 of several the first in a", x.borrowed(0, 2, 1), 0);
    due("23 then the first in b", x.borrowed(0, 2, 2), 1);
    due("23 one", x.borrowed(0, 2, 0), 1);
  }

  private static void borrowedByOneCarrying() {
    TaleDesk x = new TaleDesk();
    x.tale(0, 0, 0);
    x.tale(0, 0, 0);
    steps(x, 0, 1, 0, 1, 2, 0, 1);
    steps(x, 1, 1, 2, 3, 2, 3, 2);
    due("23 one role would go to two", x.borrowed(0, 1, 0), 1);
    x.tale(0, 0, 0);
    steps(x, 2, 1, 2, 3, 2, 2, 2);
    due("23 two roles would go to one", x.borrowed(0, 2, 0), 1);
    x.tale(0, 0, 0);
    steps(x, 3, 2, 0, 1, 1, 2, 3);
    due("23 the first in a, later in b", x.borrowed(0, 3, 2), 1);
    x.tale(0, 0, 0);
    steps(x, 4, 1, 0, 2, 2, 3, 2);
    due("23 a role that went to 0 would go to 3", x.borrowed(0, 4, 0), 1);
    x.tale(0, 0, 0);
    steps(x, 5, 1, 0, 1, 2, 0, 1);
    due("23 two", x.borrowed(0, 5, 0), 2);
    x.unstep(5);
    due("23 not what went", x.borrowed(0, 5, 0), 1);
    due("23 not what went", x.borrowed(5, 0, 0), 1);
    for (int i = 0; i < 8; i++) {
      x.step(0, 5, 0, 0);
      x.step(1, 5, 1, 1);
    }
    due("23 up to the last", x.borrowed(0, 1, 0), 8);
    due("23 up to the last", x.borrowed(0, 1, 1), 2);
  }

  private static void joined() {
    TaleDesk x = new TaleDesk();
    due("24 no tale", x.joined(0, 0, 0, false), Check.BEYOND);
    for (int i = 0; i < 3; i++) {
      x.tale(0, 0, 0);
    }
    due("24 nothing", x.joined(0, 1, 2, false), 0);
    due("24 nothing", x.joined(0, 1, 2, true), 0);
    steps(x, 0, 1, 0, 1, 2, 0, 1, 7, 0, 1, 8, 0, 1);
    steps(x, 1, 1, 2, 3, 2, 2, 3);
    steps(x, 2, 7, 1, 0, 8, 1, 0);
    due("24 place", x.joined(0, 1, 2, false), 2);
    due("24 each by its own carrying", x.joined(0, 1, 2, true), 0);
    due("24 the wrong way round: of several the first", x.joined(0, 2, 1, false), 0);
    due("24 the wrong way round", x.joined(0, 2, 1, true), 12);
    due("24 tale", x.joined(3, 1, 2, false), Check.BEYOND);
    due("24 b", x.joined(0, -1, 2, false), Check.BEYOND);
    due("24 c", x.joined(0, 1, 3, true), Check.BEYOND);
  }

  private static void joinedParts() {
    TaleDesk x = new TaleDesk();
    x.tale(1, 0, 0);
    x.tale(0, 0, 0);
    x.tale(0, 0, 0);
    steps(x, 0, 1, 0, 1);
    steps(x, 1, 1, 0, 1, 2, 0, 1);
    due("24 a torn one's parts are a tale's", x.joined(0, 1, 2, true), 3);
    x.tale(2, 0, 0);
    steps(x, 3, 8, 0, 0, 1, 0, 1, 9, 0, 0);
    x.tale(0, 0, 0);
    steps(x, 4, 8, 0, 0);
    x.tale(0, 0, 0);
    steps(x, 5, 1, 0, 1, 9, 0, 0);
    due("24 a frame is cut whole", x.joined(3, 4, 5, false), 1);
    due("24 a frame is cut whole", x.joined(3, 4, 5, true), 0);
    due("24 c as a frame is laid", x.joined(0, 2, 3, true), 0);
    x.tale(1, 0, 0);
    steps(x, 6, 8, 0, 0);
    due("24 beside a torn one its end is free", x.joined(3, 6, 2, true), 0);
    due("24 beside a torn one its end is free", x.joined(3, 6, 2, false), 3);
  }

  private static void count() {
    TaleDesk x = new TaleDesk();
    due("25 no tales", x.count(0, -1, true), 0);
    x.tale(0, 0, 0);
    x.tale(1, 0, 0);
    x.tale(3, 5, 0);
    x.tale(2, 5, 0);
    steps(x, 0, 1, 0, 1, 1, 1, 0, 2, 0, 0);
    steps(x, 1, 1, 3, 3);
    steps(x, 3, 1, 0, 0, 1, 0, 0, 1, 0, 0);
    due("25 at one place", x.count(1, 0, false), 3);
    due("25 with doubts", x.count(1, 0, true), 4);
    due("25 at all", x.count(1, -1, false), 6);
    due("25 at all with doubts", x.count(1, -1, true), 8);
    due("25 a frame's all", x.count(1, 5, false), 3);
    due("25 only doubts", x.count(9, 5, true), 1);
    due("25 nobody there", x.count(1, 3, true), 0);
    for (int i = 0; i < 8; i++) {
      x.step(1, 4, 0, 0);
    }
    due("25 nine steps are in doubt", x.count(2, 0, true), 2);
    x.step(1, 4, 0, 0);
    due("25 ten are not", x.count(2, 0, true), 1);
    TaleDesk torn = new TaleDesk();
    torn.tale(1, 3, 0);
    due("25 tale 0 in doubt", torn.count(15, 3, true), 1);
    due("25 tale 0 in doubt", torn.count(15, -1, true), 1);
    due("25 motif", x.count(16, 0, false), Check.BEYOND);
    due("25 motif", x.count(-1, 0, false), Check.BEYOND);
    due("25 place", x.count(0, 6, false), Check.BEYOND);
    due("25 place", x.count(0, -2, true), Check.BEYOND);
  }

  private static void home() {
    TaleDesk x = new TaleDesk();
    due("26 nowhere", x.home(0), Check.NONE);
    x.tale(1, 0, 0);
    due("26 doubts don't count", x.home(0), Check.NONE);
    x.tale(0, 4, 0);
    x.tale(0, 2, 0);
    x.tale(0, 2, 0);
    steps(x, 1, 7, 0, 0, 7, 0, 0);
    steps(x, 2, 7, 0, 0);
    due("26 most", x.home(7), 4);
    steps(x, 3, 7, 0, 0);
    due("26 of several the first", x.home(7), 2);
    x.step(1, 7, 1, 1);
    due("26 most again", x.home(7), 4);
    x.step(0, 8, 0, 0);
    due("26 place 0", x.home(8), 0);
    x.tale(0, 5, 0);
    x.step(4, 9, 0, 0);
    due("26 place 5", x.home(9), 5);
    due("26 motif", x.home(16), Check.BEYOND);
    due("26 motif", x.home(-1), Check.BEYOND);
  }

  public static void main(String[] args) {
    source();
    printIsSource();
    first();
    borrowed();
    borrowedByOneCarrying();
    joined();
    joinedParts();
    count();
    home();
    CHECK.end("WanderingTest");
  }
}
