/** Promises 1 to 11, sentence by sentence: a new object, tales, their STEPS and PRINTS, PRICES and WAYS. */
public final class TalesTest extends Sentences {

  // ---- promise 1: a new object

  static void newHasNoTales() {
    sentence("1", "No tales;");
    TaleDesk x = new TaleDesk();
    due("tales", x.all(0), 0);
    due("STEPS", x.all(1), 0);
    due("tale 0", x.told(0, 0), BEYOND);
    due("the first tale", x.tale(0, 0, 0), 0);
  }

  static void newHasPrices() {
    sentence("1", "prices 4, 1, 3;");
    TaleDesk x = new TaleDesk();
    due("price 0", x.price(0, 9), 4);
    due("price 1", x.price(1, 9), 1);
    due("price 2", x.price(2, 9), 3);
    due("price 0 of another new object", new TaleDesk().price(0, 9), 4);
  }

  static void newHasWays() {
    sentence("1", "ways of 0 days;");
    for (int place = 0; place < 6; place++) {
      TaleDesk x = new TaleDesk();
      for (int other = 0; other < 6; other++) {
        if (other != place) {
          due("way " + place + " to " + other, x.way(place, other, 999), 0);
        }
      }
    }
  }

  static void newHasSheetsMissing() {
    sentence("1", "sheets MISSING.");
    TaleDesk x = new TaleDesk();
    x.tale(0, 0, 0);
    for (int s = 0; s < 4; s++) {
      due("put into sheet " + s, x.put(s, 0, 0), MISSING);
      due("copy of sheet " + s, x.copy(s, 0, s, 0, 0), MISSING);
      due("lay of sheet " + s, x.lay(0, s), MISSING);
    }
  }

  // ---- promise 2: tale

  static void taleIsNew() {
    sentence("2", "A new tale without STEPS: its number.");
    TaleDesk x = new TaleDesk();
    int[] places = {0, 5, 1, 4, 2, 3, 5, 0, 3, 2};
    int[] days = {0, 999, 1, 998, 500, 0, 999, 7, 8, 9};
    for (int i = 0; i < 10; i++) {
      due("number", x.tale(i % 4, places[i], days[i]), i);
      due("tales", x.all(0), i + 1);
    }
    for (int i = 0; i < 10; i++) {
      due("kind of " + i, x.told(i, 0), i % 4);
      due("place of " + i, x.told(i, 1), places[i]);
      due("day of " + i, x.told(i, 2), days[i]);
      due("STEPS of " + i, x.told(i, 3), 0);
      due("PRINT of " + i, x.told(i, 5), -1);
    }
  }

  static void taleIsNewWhereOneWasUndone() {
    sentence("2", "A new tale without STEPS: its number.");
    TaleDesk x = new TaleDesk();
    x.tale(RETOLD, 0, 0);
    tellAt(x, RETOLD, 3, 30, 1, 0, 1, 2, 0, 1);
    x.print(1, 0);
    for (int i = 0; i < 4; i++) {
      x.undo();
    }
    due("number", x.tale(RETOLD, 0, 0), 1);
    due("STEPS", x.told(1, 3), 0);
    due("PRINT", x.told(1, 5), -1);
    due("place", x.told(1, 1), 0);
  }

  static void taleBeyond() {
    sentence("2", "BEYOND: kind is not 0 to 3, or place, day.");
    TaleDesk x = new TaleDesk();
    for (int wrong : outside(0, 3)) {
      due("kind " + wrong, x.tale(wrong, 0, 0), BEYOND);
    }
    for (int wrong : outside(0, 5)) {
      due("place " + wrong, x.tale(0, wrong, 0), BEYOND);
    }
    for (int wrong : outside(0, 999)) {
      due("day " + wrong, x.tale(0, 0, wrong), BEYOND);
    }
    due("the least of each", x.tale(0, 0, 0), 0);
    due("the greatest of each", x.tale(3, 5, 999), 1);
  }

  static void taleFull() {
    sentence("2", "FULL: there are 10.");
    TaleDesk x = new TaleDesk();
    for (int i = 0; i < 9; i++) {
      x.tale(i % 4, 0, 0);
    }
    due("the tenth", x.tale(3, 5, 999), 9);
    for (int kind = 0; kind < 4; kind++) {
      due("an eleventh of kind " + kind, x.tale(kind, 0, 0), FULL);
    }
    due("undo", x.undo(), 9);
    due("a tenth again", x.tale(0, 0, 0), 9);
    due("an eleventh again", x.tale(0, 0, 0), FULL);
  }

  // ---- promise 3: as

  static void asOneOfAKind() {
    sentence("3", "A tale as one of a kind: its number.");
    TaleDesk x = new TaleDesk();
    for (int kind = 0; kind < 4; kind++) {
      x.tale(kind, 0, 0);
      due("kind " + kind + " as its own", x.as(kind, kind), kind);
      due("kind " + kind + " as a TALE", x.as(kind, TALE), kind);
    }
    due("RETOLD as TORN", x.as(3, TORN), 3);
    due("its kind stays", x.told(3, 0), RETOLD);
    TaleDesk ten = new TaleDesk();
    for (int i = 0; i < 10; i++) {
      ten.tale(TALE, 0, 0);
    }
    due("tale 9", ten.as(9, TALE), 9);
  }

  static void asBeyond() {
    sentence("3", "BEYOND: no such tale, or kind.");
    TaleDesk x = new TaleDesk();
    due("tale 0 of none", x.as(0, TALE), BEYOND);
    x.tale(TALE, 0, 0);
    x.tale(RETOLD, 0, 0);
    for (int wrong : outside(0, 1)) {
      due("tale " + wrong, x.as(wrong, TALE), BEYOND);
    }
    for (int wrong : outside(0, 3)) {
      due("kind " + wrong, x.as(1, wrong), BEYOND);
    }
  }

  static void asKind() {
    sentence("3", "KIND: it is not of that kind, nor of one under it.");
    TaleDesk x = new TaleDesk();
    for (int kind = 0; kind < 4; kind++) {
      x.tale(kind, 0, 0);
    }
    due("TALE as TORN", x.as(0, TORN), KIND);
    due("TALE as FRAME", x.as(0, FRAME), KIND);
    due("TALE as RETOLD", x.as(0, RETOLD), KIND);
    due("TORN as FRAME", x.as(1, FRAME), KIND);
    due("TORN as RETOLD", x.as(1, RETOLD), KIND);
    due("FRAME as TORN", x.as(2, TORN), KIND);
    due("FRAME as RETOLD", x.as(2, RETOLD), KIND);
    due("RETOLD as FRAME", x.as(3, FRAME), KIND);
  }

  // ---- promise 4: step

  static void stepComesBehind() {
    sentence("4", "A STEP comes behind a tale's: how many it has.");
    TaleDesk x = new TaleDesk();
    x.tale(TALE, 0, 0);
    x.tale(FRAME, 0, 0);
    for (int i = 0; i < 10; i++) {
      due("how many", x.step(1, 15 - i, i % 4, (i + 2) % 4), i + 1);
    }
    for (int i = 0; i < 10; i++) {
      due("motif of STEP " + i, x.of(1, i, 0), 15 - i);
      due("who of STEP " + i, x.of(1, i, 1), i % 4);
      due("to whom of STEP " + i, x.of(1, i, 2), (i + 2) % 4);
    }
    due("the other tale's", x.told(0, 3), 0);
    due("the first of the other tale", x.step(0, 0, 3, 3), 1);
    dueSteps("the other tale", x, 0, 0, 3, 3);
  }

  static void stepBeyond() {
    sentence("4", "BEYOND: no such tale, motif, or role.");
    TaleDesk x = new TaleDesk();
    due("tale 0 of none", x.step(0, 0, 0, 0), BEYOND);
    x.tale(TALE, 0, 0);
    for (int wrong : outside(0, 0)) {
      due("tale " + wrong, x.step(wrong, 0, 0, 0), BEYOND);
    }
    for (int wrong : outside(0, 15)) {
      due("motif " + wrong, x.step(0, wrong, 0, 0), BEYOND);
    }
    for (int wrong : outside(0, 3)) {
      due("who " + wrong, x.step(0, 0, wrong, 0), BEYOND);
      due("to whom " + wrong, x.step(0, 0, 0, wrong), BEYOND);
    }
    due("the least of each", x.step(0, 0, 0, 0), 1);
    due("the greatest of each", x.step(0, 15, 3, 3), 2);
  }

  static void stepFull() {
    sentence("4", "FULL: it has 10.");
    TaleDesk x = new TaleDesk();
    motifs(x, TALE, 1, 2, 3, 4, 5, 6, 7, 8, 9);
    due("the tenth", x.step(0, 10, 0, 0), 10);
    due("an eleventh", x.step(0, 11, 0, 0), FULL);
    motifs(x, FRAME, 1, 2, 3, 4, 5, 6, 7, 8, 9, 10);
    due("an eleventh of a FRAME, of which eight are LAID", x.step(1, 11, 0, 0), FULL);
    due("the last goes", x.unstep(0), 9);
    due("a tenth again", x.step(0, 12, 0, 0), 10);
    due("an eleventh again", x.step(0, 12, 0, 0), FULL);
  }

  // ---- promise 5: unstep

  static void unstepTakesTheLast() {
    sentence("5", "The last STEP of a tale goes: how many it has.");
    TaleDesk x = new TaleDesk();
    motifs(x, FRAME, 1, 2, 3, 4, 5, 6, 7, 8, 9, 10);
    motifs(x, TALE, 1, 2);
    for (int left = 9; left >= 0; left--) {
      due("how many", x.unstep(0), left);
      due("the one that went", x.of(0, left, 0), BEYOND);
      if (left > 0) {
        due("the last that stays", x.of(0, left - 1, 0), left);
      }
    }
    due("the other tale's", x.told(1, 3), 2);
    due("a new one", x.step(0, 15, 2, 3), 1);
    dueSteps("a new one", x, 0, 15, 2, 3);
  }

  static void unstepBeyond() {
    sentence("5", "BEYOND.");
    TaleDesk x = new TaleDesk();
    due("tale 0 of none", x.unstep(0), BEYOND);
    motifs(x, TALE, 1);
    for (int wrong : outside(0, 0)) {
      due("tale " + wrong, x.unstep(wrong), BEYOND);
    }
  }

  static void unstepNone() {
    sentence("5", "NONE: it has none.");
    TaleDesk x = new TaleDesk();
    x.tale(TALE, 0, 0);
    motifs(x, TALE, 1);
    due("a new tale", x.unstep(0), NONE);
    due("its only one", x.unstep(1), 0);
    due("once more", x.unstep(1), NONE);
  }

  // ---- promise 6: of

  static void ofTellsAStep() {
    sentence("6", "Of STEP i of a tale: 0 the motif, 1 who, 2 to whom.");
    TaleDesk x = new TaleDesk();
    int[] steps = {0, 0, 3, 15, 3, 0, 9, 1, 2, 1, 2, 1, 7, 3, 3, 8, 0, 0, 4, 1, 0, 5, 2, 3, 6, 0, 1, 14, 3, 2};
    tell(x, FRAME, steps);
    dueSteps("a FRAME of ten, those that are not LAID too", x, 0, steps);
  }

  static void ofBeyond() {
    sentence("6", "BEYOND: no such tale, STEP, or what.");
    TaleDesk x = new TaleDesk();
    due("tale 0 of none", x.of(0, 0, 0), BEYOND);
    motifs(x, TALE, 1, 2);
    x.tale(TALE, 0, 0);
    motifs(x, TALE, 1, 2, 3, 4, 5, 6, 7, 8, 9, 10);
    for (int wrong : outside(0, 2)) {
      due("tale " + wrong, x.of(wrong, 0, 0), BEYOND);
      due("what " + wrong, x.of(0, 0, wrong), BEYOND);
    }
    for (int wrong : outside(0, 1)) {
      due("STEP " + wrong, x.of(0, wrong, 0), BEYOND);
    }
    due("STEP 0 of a tale without", x.of(1, 0, 0), BEYOND);
    due("STEP 10 of ten", x.of(2, 10, 0), BEYOND);
    due("STEP 9 of ten", x.of(2, 9, 0), 10);
    due("STEP -1 of a tale behind another one", x.of(2, -1, 0), BEYOND);
  }

  // ---- promise 7: told

  static void toldKindPlaceDay() {
    sentence("7", "Of a tale: 0 its kind, 1 place, 2 day,");
    TaleDesk x = new TaleDesk();
    x.tale(TALE, 0, 0);
    x.tale(RETOLD, 5, 999);
    x.tale(FRAME, 1, 3);
    int[][] due = {{0, 0, 0}, {3, 5, 999}, {2, 1, 3}};
    for (int tale = 0; tale < 3; tale++) {
      for (int what = 0; what < 3; what++) {
        due("tale " + tale + ", " + what, x.told(tale, what), due[tale][what]);
      }
    }
  }

  static void toldSteps() {
    sentence("7", "3 STEPS, 4 LAID STEPS,");
    for (int kind = 0; kind < 4; kind++) {
      TaleDesk x = new TaleDesk();
      x.tale(kind, 0, 0);
      for (int n = 0; n <= 10; n++) {
        due("STEPS", x.told(0, 3), n);
        due("LAID STEPS of kind " + kind, x.told(0, 4), kind == FRAME && n >= 2 ? n - 2 : n);
        x.step(0, 1, 1, 1);
      }
    }
  }

  static void toldPrint() {
    sentence("7", "5 PRINT (-1: none, no finding).");
    TaleDesk x = new TaleDesk();
    for (int kind = 0; kind < 4; kind++) {
      x.tale(kind, 0, 0);
      due("none of kind " + kind, x.told(kind, 5), -1);
    }
    due("-1 is no finding", x.all(2), 0);
    x.print(3, 0);
    due("tale 0", x.told(3, 5), 0);
    x.print(3, 2);
    due("tale 2", x.told(3, 5), 2);
    x.print(3, -1);
    due("none again", x.told(3, 5), -1);
    due("-1 is no finding", x.all(2), 0);
  }

  static void toldBeyond() {
    sentence("7", "BEYOND: no such tale, or another what.");
    TaleDesk x = new TaleDesk();
    for (int what = 0; what < 6; what++) {
      due("tale 0 of none, " + what, x.told(0, what), BEYOND);
    }
    x.tale(RETOLD, 0, 0);
    for (int wrong : outside(0, 0)) {
      due("tale " + wrong, x.told(wrong, 0), BEYOND);
    }
    for (int wrong : outside(0, 5)) {
      due("what " + wrong, x.told(0, wrong), BEYOND);
    }
  }

  // ---- promise 8: print

  static void printIsAnotherOne() {
    sentence("8", "A RETOLD tale's PRINT is another one (-1: none): what it was (-1: none, no finding).");
    TaleDesk x = new TaleDesk();
    for (int kind = 0; kind < 4; kind++) {
      x.tale(kind, 0, 0);
    }
    x.tale(RETOLD, 0, 0);
    due("it had none", x.print(3, 0), -1);
    due("a TORN one, was tale 0", x.print(3, 1), 0);
    due("a FRAME, was tale 1", x.print(3, 2), 1);
    due("a later one, was tale 2", x.print(3, 4), 2);
    due("the same once more", x.print(3, 4), 4);
    due("none, was tale 4", x.print(3, -1), 4);
    due("none, was none", x.print(3, -1), -1);
    due("-1 is no finding", x.all(2), 0);
    due("another RETOLD one's", x.told(4, 5), -1);
  }

  static void printBeyond() {
    sentence("8", "BEYOND: no such tale (either).");
    TaleDesk x = new TaleDesk();
    due("tale 0 of none", x.print(0, -1), BEYOND);
    x.tale(RETOLD, 0, 0);
    x.tale(RETOLD, 0, 0);
    for (int wrong : outside(0, 1)) {
      due("tale " + wrong, x.print(wrong, 0), BEYOND);
      due("tale " + wrong + ", none", x.print(wrong, -1), BEYOND);
    }
    for (int wrong : outside(-1, 1)) {
      due("other " + wrong, x.print(0, wrong), BEYOND);
    }
  }

  static void printKind() {
    sentence("8", "KIND: it is not RETOLD.");
    TaleDesk x = new TaleDesk();
    for (int kind = 0; kind < 4; kind++) {
      x.tale(kind, 0, 0);
    }
    for (int kind = 0; kind < 3; kind++) {
      due("kind " + kind, x.print(kind, 3), KIND);
      due("kind " + kind + ", none", x.print(kind, -1), KIND);
    }
    due("RETOLD", x.print(3, 0), -1);
  }

  static void printRing() {
    sentence("8", "RING: by PRINTS from one to the next one would come back to it (itself, too).");
    TaleDesk x = new TaleDesk();
    for (int i = 0; i < 10; i++) {
      x.tale(RETOLD, 0, 0);
      due("itself", x.print(i, i), RING);
    }
    for (int i = 1; i < 10; i++) {
      due("a row", x.print(i, i - 1), -1);
      for (int back = 1; back <= i; back++) {
        due("round from " + i + " by 0 to " + back, x.print(0, back), RING);
      }
    }
    due("tale 0 has none", x.told(0, 5), -1);
  }

  static void printNoRing() {
    sentence("8", "RING: by PRINTS from one to the next one would come back to it (itself, too).");
    TaleDesk x = new TaleDesk();
    for (int i = 0; i < 4; i++) {
      x.tale(RETOLD, 0, 0);
    }
    x.print(1, 0);
    due("two with one PRINT make none", x.print(2, 0), -1);
    due("a row that ends makes none", x.print(3, 2), -1);
    due("a round of two", x.print(0, 2), RING);
    due("a round of three", x.print(0, 3), RING);
    due("the row is cut", x.print(2, -1), 0);
    due("now it makes none", x.print(0, 3), -1);
    due("but this does: 2, 1, 0, 3, 2", x.print(2, 1), RING);
  }

  // ---- promise 9: recode

  static void recodeAll() {
    sentence("9", "All STEPS with a motif have another one: how many had.");
    TaleDesk x = new TaleDesk();
    due("without tales", x.recode(0, 15), 0);
    tell(x, TALE, 3, 1, 2, 4, 0, 3, 3, 3, 0);
    tell(x, FRAME, 3, 2, 2, 5, 0, 0, 3, 1, 1);
    x.tale(TORN, 0, 0);
    due("how many, a FRAME's first and last too", x.recode(3, 15), 4);
    dueSteps("the first tale", x, 0, 15, 1, 2, 4, 0, 3, 15, 3, 0);
    dueSteps("the FRAME", x, 1, 15, 2, 2, 5, 0, 0, 15, 1, 1);
    due("none has it any more", x.recode(3, 15), 0);
    due("to itself", x.recode(15, 15), 4);
    due("onto one that is there", x.recode(15, 4), 4);
    due("all of both", x.recode(4, 0), 5);
    x.unstep(1);
    due("not one that went", x.recode(0, 1), 4);
  }

  static void recodeAHundred() {
    sentence("9", "All STEPS with a motif have another one: how many had.");
    TaleDesk x = new TaleDesk();
    for (int tale = 0; tale < 10; tale++) {
      motifs(x, tale % 4, 0, 0, 0, 0, 0, 0, 0, 0, 0, 0);
    }
    due("ten tales of ten", x.recode(0, 15), 100);
    due("the last of the last", x.of(9, 9, 0), 15);
    due("none", x.recode(0, 15), 0);
  }

  static void recodeBeyond() {
    sentence("9", "BEYOND (either).");
    TaleDesk x = new TaleDesk();
    motifs(x, TALE, 0, 15);
    for (int wrong : outside(0, 15)) {
      due("motif " + wrong, x.recode(wrong, 0), BEYOND);
      due("other " + wrong, x.recode(0, wrong), BEYOND);
      due("both " + wrong, x.recode(wrong, wrong), BEYOND);
    }
    due("the least and the greatest", x.recode(0, 15), 1);
    due("the greatest and the least", x.recode(15, 0), 2);
  }

  // ---- promise 10: price

  static void priceBecomes() {
    sentence("10", "A PRICE becomes v: what it was.");
    TaleDesk x = new TaleDesk();
    int[] first = {4, 1, 3};
    for (int which = 0; which < 3; which++) {
      due("at first", x.price(which, 0), first[which]);
      due("the least", x.price(which, 9), 0);
      due("the greatest", x.price(which, 5 + which), 9);
    }
    for (int which = 0; which < 3; which++) {
      due("each its own", x.price(which, which), 5 + which);
    }
    due("the same once more", x.price(1, 1), 1);
    due("the same once more", x.price(1, 1), 1);
  }

  static void priceCounts() {
    sentence("10", "A PRICE becomes v: what it was.");
    TaleDesk x = new TaleDesk();
    tell(x, TALE, 1, 0, 0);
    tell(x, TALE, 2, 0, 1);
    due("motif and role", x.cost(0, 1), 5);
    x.price(1, 0);
    due("motif alone", x.cost(0, 1), 4);
    x.price(0, 0);
    due("neither", x.cost(0, 1), 0);
    x.price(0, 9);
    due("two alone", x.cost(0, 1), 6);
    x.price(2, 0);
    due("two alone for nothing", x.cost(0, 1), 0);
    x.price(2, 9);
    due("motif for the greatest", x.cost(0, 1), 9);
  }

  static void priceBeyond() {
    sentence("10", "BEYOND.");
    TaleDesk x = new TaleDesk();
    for (int wrong : outside(0, 2)) {
      due("which " + wrong, x.price(wrong, 0), BEYOND);
    }
    for (int wrong : outside(0, 9)) {
      due("v " + wrong, x.price(0, wrong), BEYOND);
    }
  }

  // ---- promise 11: way

  static void wayTakes() {
    sentence("11", "The WAY between two places takes so many days: what it took.");
    TaleDesk x = new TaleDesk();
    due("at first", x.way(0, 5, 999), 0);
    due("told the other way round", x.way(5, 0, 7), 999);
    due("and back", x.way(0, 5, 0), 7);
    due("the least", x.way(0, 5, 1), 0);
    for (int place = 0; place < 6; place++) {
      for (int other = place + 1; other < 6; other++) {
        due("each its own", x.way(place, other, 10 * place + other), place == 0 && other == 5 ? 1 : 0);
      }
    }
    for (int place = 0; place < 6; place++) {
      for (int other = place + 1; other < 6; other++) {
        due("each its own", x.way(other, place, 0), 10 * place + other);
      }
    }
  }

  static void wayBeyond() {
    sentence("11", "BEYOND: no such place (either), or days.");
    TaleDesk x = new TaleDesk();
    for (int wrong : outside(0, 5)) {
      due("place " + wrong, x.way(wrong, 0, 0), BEYOND);
      due("other " + wrong, x.way(0, wrong, 0), BEYOND);
    }
    for (int wrong : outside(0, 999)) {
      due("days " + wrong, x.way(0, 1, wrong), BEYOND);
    }
  }

  static void waySize() {
    sentence("11", "SIZE: they are one.");
    TaleDesk x = new TaleDesk();
    for (int place = 0; place < 6; place++) {
      due("place " + place + ", 0 days", x.way(place, place, 0), SIZE);
      due("place " + place + ", 999 days", x.way(place, place, 999), SIZE);
    }
  }

  public static void main(String[] args) throws ReflectiveOperationException {
    runAll(TalesTest.class);
  }
}
