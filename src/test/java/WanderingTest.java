/** Promises 21 to 26, sentence by sentence: SOURCES, what is BORROWED, JOINED tales, and COUNTS. */
public final class WanderingTest extends Sentences {

  // ---- promise 21: source

  static void sourceOfATale() {
    sentence("21", "SOURCE of a tale.");
    TaleDesk x = new TaleDesk();
    tellAt(x, TALE, 0, 50, 1, 0, 1);
    tellAt(x, TALE, 0, 49, 2, 0, 1, 3, 0, 1);
    due("the only one that could be", x.source(0), 1);
    tellAt(x, TALE, 0, 1, 1, 2, 3);
    due("the nearer one", x.source(0), 2);
    due("of another one", x.source(1), 2);
    x.tale(RETOLD, 0, 60);
    x.print(3, 1);
    due("by PRINT", x.source(3), 1);
    x.print(3, -1);
    due("by days again", x.source(3), 0);
  }

  static void sourceFollowsWhatChanges() {
    sentence("21", "SOURCE of a tale.");
    TaleDesk x = new TaleDesk();
    tellAt(x, TALE, 0, 50, 1, 0, 1);
    tellAt(x, TALE, 1, 40, 1, 0, 1);
    tellAt(x, TALE, 2, 40, 2, 0, 1);
    due("at first", x.source(0), 1);
    x.way(0, 1, 11);
    due("behind way", x.source(0), 2);
    x.way(0, 2, 11);
    due("behind both ways", x.source(0), NONE);
    x.undo();
    due("behind undo", x.source(0), 2);
    x.undo();
    x.recode(2, 1);
    x.recode(1, 5);
    x.step(1, 5, 0, 1);
    due("behind step", x.source(0), 2);
  }

  static void sourceBeyond() {
    sentence("21", "BEYOND.");
    TaleDesk x = new TaleDesk();
    due("tale 0 of none", x.source(0), BEYOND);
    x.tale(TALE, 0, 0);
    for (int wrong : outside(0, 0)) {
      due("tale " + wrong, x.source(wrong), BEYOND);
    }
  }

  static void sourceNone() {
    sentence("21", "NONE: there is none.");
    TaleDesk x = new TaleDesk();
    x.tale(TALE, 0, 0);
    due("the only tale", x.source(0), NONE);
    x.tale(TALE, 0, 0);
    due("another one of the same day", x.source(0), NONE);
    x.tale(RETOLD, 0, 1);
    due("a later one", x.source(0), NONE);
    due("the later one's", x.source(2), 0);
    x.tale(RETOLD, 0, 0);
    due("RETOLD without a PRINT", x.source(3), NONE);
  }

  // ---- promise 22: first

  static void firstBySources() {
    sentence("22", "The first tale by SOURCES from one to the next (itself, if it has none).");
    TaleDesk x = new TaleDesk();
    tellAt(x, TALE, 0, 5, 1, 0, 1);
    due("itself", x.first(0), 0);
    tellAt(x, TALE, 0, 9, 1, 0, 1);
    due("by one", x.first(1), 0);
    tellAt(x, TALE, 0, 20, 2, 0, 1);
    tellAt(x, RETOLD, 0, 1, 2, 0, 1);
    x.way(0, 1, 900);
    tellAt(x, TALE, 1, 30, 1, 0, 1);
    due("itself, too far away", x.first(4), 4);
    x.print(3, 4);
    due("by a PRINT of a later day", x.first(3), 4);
    due("by days to a PRINT", x.first(2), 4);
  }

  static void firstOfTen() {
    sentence("22", "The first tale by SOURCES from one to the next (itself, if it has none).");
    TaleDesk x = new TaleDesk();
    for (int i = 0; i < 10; i++) {
      x.tale(RETOLD, 0, 0);
      if (i > 0) {
        x.print(i, i - 1);
      }
    }
    for (int i = 0; i < 10; i++) {
      due("a row of ten PRINTS from " + i, x.first(i), 0);
    }
    TaleDesk back = new TaleDesk();
    for (int i = 0; i < 10; i++) {
      back.tale(RETOLD, 0, 0);
    }
    for (int i = 0; i < 9; i++) {
      back.print(i, i + 1);
    }
    due("a row of ten that rises", back.first(0), 9);
    due("the last of it", back.first(9), 9);
  }

  static void firstBeyond() {
    sentence("22", "BEYOND.");
    TaleDesk x = new TaleDesk();
    due("tale 0 of none", x.first(0), BEYOND);
    x.tale(TALE, 0, 0);
    for (int wrong : outside(0, 0)) {
      due("tale " + wrong, x.first(wrong), BEYOND);
    }
  }

  static void firstRing() {
    sentence("22", "RING: they go round (by PRINTS told against days).");
    TaleDesk x = new TaleDesk();
    x.tale(RETOLD, 0, 5);
    x.tale(TALE, 0, 9);
    due("no PRINT yet", x.first(1), 0);
    x.print(0, 1);
    due("a round of two", x.first(0), RING);
    due("a round of two", x.first(1), RING);
    x.tale(RETOLD, 0, 0);
    x.print(2, 0);
    due("from outside into a round", x.first(2), RING);
    x.way(0, 1, 999);
    x.tale(TALE, 1, 0);
    due("another one beside the round", x.first(3), 3);
    x.print(0, -1);
    due("the PRINT is gone: another one is its SOURCE", x.first(0), RING);
    x.print(2, -1);
    due("that PRINT is gone too", x.first(0), 2);
  }

  static void firstRingOfTen() {
    sentence("22", "RING: they go round (by PRINTS told against days).");
    TaleDesk x = new TaleDesk();
    for (int i = 0; i < 9; i++) {
      x.tale(RETOLD, 0, 5);
      if (i > 0) {
        x.print(i, i - 1);
      }
    }
    x.tale(TALE, 0, 6);
    due("nine PRINTS and a day: no round yet", x.first(8), 0);
    due("by a day", x.first(9), 0);
    x.print(0, 9);
    due("a round of two by a day", x.first(9), RING);
    due("from far outside into it", x.first(8), RING);
    TaleDesk ten = new TaleDesk();
    ten.tale(TALE, 0, 6);
    for (int i = 1; i < 9; i++) {
      ten.tale(RETOLD, 0, 7);
      ten.print(i, i - 1);
    }
    ten.tale(RETOLD, 0, 5);
    ten.print(9, 8);
    for (int i = 0; i < 10; i++) {
      due("a round of ten from " + i, ten.first(i), RING);
    }
  }

  // ---- promise 23: borrowed

  static void borrowedPiece() {
    sentence("23", "Of what is BORROWED by a from b: 0 how many STEPS, 1 from which of a's, 2 from which of b's.");
    TaleDesk x = new TaleDesk();
    tell(x, TALE, 1, 0, 1, 2, 1, 2, 3, 2, 0, 1, 0, 1);
    tell(x, TALE, 9, 0, 0, 9, 0, 0, 2, 3, 1, 3, 1, 0, 9, 0, 0, 1, 1, 2);
    due("how many", x.borrowed(0, 1, 0), 2);
    due("from a's", x.borrowed(0, 1, 1), 1);
    due("from b's", x.borrowed(0, 1, 2), 2);
    due("turned round, how many", x.borrowed(1, 0, 0), 2);
    due("turned round, from a's", x.borrowed(1, 0, 1), 2);
    due("turned round, from b's", x.borrowed(1, 0, 2), 1);
  }

  static void borrowedWhole() {
    sentence("23", "Of what is BORROWED by a from b: 0 how many STEPS, 1 from which of a's, 2 from which of b's.");
    TaleDesk x = new TaleDesk();
    motifs(x, TALE, 0, 1, 2, 3, 4, 5, 6, 7, 8, 9);
    due("ten of itself", x.borrowed(0, 0, 0), 10);
    due("from the first", x.borrowed(0, 0, 1), 0);
    due("from the first", x.borrowed(0, 0, 2), 0);
    motifs(x, TALE, 9);
    due("the last", x.borrowed(0, 1, 0), 1);
    due("the last of a", x.borrowed(0, 1, 1), 9);
    due("the first of b", x.borrowed(0, 1, 2), 0);
    due("the last of b", x.borrowed(1, 0, 2), 9);
    x.unstep(0);
    due("not one that went", x.borrowed(0, 1, 0), 0);
    due("not one that went from b", x.borrowed(1, 0, 0), 0);
  }

  static void borrowedBeyond() {
    sentence("23", "BEYOND: no such tale (either), or what.");
    TaleDesk x = new TaleDesk();
    due("tale 0 of none", x.borrowed(0, 0, 0), BEYOND);
    motifs(x, TALE, 1);
    motifs(x, TALE, 1);
    for (int wrong : outside(0, 1)) {
      due("a " + wrong, x.borrowed(wrong, 0, 0), BEYOND);
      due("b " + wrong, x.borrowed(0, wrong, 0), BEYOND);
    }
    for (int wrong : outside(0, 2)) {
      due("what " + wrong, x.borrowed(0, 1, wrong), BEYOND);
    }
  }

  static void borrowedNone() {
    sentence("23", "NONE: none (of 1, 2).");
    TaleDesk x = new TaleDesk();
    motifs(x, TALE, 1);
    motifs(x, TALE, 2);
    x.tale(TALE, 0, 0);
    tell(x, TALE, 1, 2, 2);
    for (int b = 1; b < 4; b++) {
      due("how many, no finding", x.borrowed(0, b, 0), 0);
    }
    due("0 is no finding", x.all(2), 0);
    for (int b = 1; b < 4; b++) {
      due("from which of a's", x.borrowed(0, b, 1), NONE);
      due("from which of b's", x.borrowed(0, b, 2), NONE);
      due("from which of a's, turned round", x.borrowed(b, 0, 1), NONE);
    }
    due("behind one that is found", x.borrowed(0, 0, 1), 0);
    due("none once more", x.borrowed(0, 1, 1), NONE);
  }

  // ---- promise 24: joined

  static void joinedPlaceAndPrice() {
    sentence("24", "The place at which a tale is JOINED of b and c; price: what it costs then.");
    TaleDesk x = new TaleDesk();
    motifs(x, TALE, 1, 2, 7, 8);
    motifs(x, TALE, 1, 2);
    tell(x, TALE, 7, 3, 2, 8, 3, 2);
    due("place", x.joined(0, 1, 2, false), 2);
    due("price, each by its own CARRYING", x.joined(0, 1, 2, true), 0);
    due("the wrong way round, place", x.joined(0, 2, 1, false), 0);
    due("the wrong way round, price", x.joined(0, 2, 1, true), 12);
    due("of one and itself", x.joined(0, 1, 0, true), 6);
    x.price(2, 1);
    due("behind price", x.joined(0, 2, 1, true), 4);
  }

  static void joinedBeyond() {
    sentence("24", "BEYOND: no such tale (any).");
    TaleDesk x = new TaleDesk();
    due("tale 0 of none", x.joined(0, 0, 0, false), BEYOND);
    motifs(x, TALE, 1);
    motifs(x, TALE, 1);
    for (int wrong : outside(0, 1)) {
      due("tale " + wrong, x.joined(wrong, 0, 1, false), BEYOND);
      due("b " + wrong, x.joined(0, wrong, 1, true), BEYOND);
      due("c " + wrong, x.joined(0, 1, wrong, false), BEYOND);
    }
  }

  // ---- promise 25: count

  private static TaleDesk counted() {
    TaleDesk x = new TaleDesk();
    tellAt(x, TALE, 0, 0, 1, 0, 1, 1, 1, 0, 2, 0, 0);
    tellAt(x, TORN, 0, 0, 1, 3, 3);
    tellAt(x, RETOLD, 5, 0);
    tellAt(x, FRAME, 5, 0, 1, 0, 0, 1, 0, 0, 1, 0, 0);
    return x;
  }

  static void countAtAPlace() {
    sentence("25", "COUNTS of a motif at a place");
    TaleDesk x = counted();
    due("at place 0", x.count(1, 0, false), 3);
    due("at place 5", x.count(1, 5, false), 3);
    due("another motif", x.count(2, 0, false), 1);
    due("a motif that is not there", x.count(2, 5, false), 0);
    due("a place without tales", x.count(1, 3, false), 0);
    due("without tales", new TaleDesk().count(0, 0, false), 0);
  }

  static void countAtAll() {
    sentence("25", "(-1: at all);");
    TaleDesk x = counted();
    due("at all", x.count(1, -1, false), 6);
    due("at all with DOUBTS", x.count(1, -1, true), 8);
    due("motif 0", x.count(0, -1, false), 0);
    due("without tales", new TaleDesk().count(0, -1, true), 0);
    x.recode(1, 15);
    due("motif 15", x.count(15, -1, false), 6);
  }

  static void countWithDoubts() {
    sentence("25", "most: with DOUBTS.");
    TaleDesk x = counted();
    due("at place 0", x.count(1, 0, true), 4);
    due("at place 5", x.count(1, 5, true), 4);
    due("only DOUBTS", x.count(9, 5, true), 1);
    due("a place without tales", x.count(1, 3, true), 0);
    due("no finding", x.all(2), 0);
  }

  static void countHundred() {
    sentence("25", "COUNTS of a motif at a place");
    TaleDesk x = new TaleDesk();
    for (int tale = 0; tale < 10; tale++) {
      motifs(x, tale % 4, 15, 15, 15, 15, 15, 15, 15, 15, 15, 15);
    }
    due("ten tales of ten", x.count(15, 0, false), 100);
    due("none in doubt", x.count(15, 0, true), 100);
    due("at all", x.count(15, -1, true), 100);
  }

  static void countBeyond() {
    sentence("25", "BEYOND: no such motif, or place.");
    TaleDesk x = counted();
    for (int wrong : outside(0, 15)) {
      due("motif " + wrong, x.count(wrong, 0, false), BEYOND);
      due("motif " + wrong + " at all", x.count(wrong, -1, true), BEYOND);
    }
    for (int wrong : outside(-1, 5)) {
      due("place " + wrong, x.count(0, wrong, false), BEYOND);
    }
  }

  // ---- promise 26: home

  static void homeOfAMotif() {
    sentence("26", "The place at which a motif has most COUNTS;");
    TaleDesk x = new TaleDesk();
    tellAt(x, TALE, 4, 0, 7, 0, 0, 7, 0, 0);
    tellAt(x, TALE, 2, 0, 7, 0, 0);
    due("most", x.home(7), 4);
    tellAt(x, TALE, 2, 0, 7, 0, 0, 7, 0, 0);
    due("most by two tales together", x.home(7), 2);
    tellAt(x, TALE, 0, 0, 0, 0, 0);
    due("place 0, motif 0", x.home(0), 0);
    tellAt(x, FRAME, 5, 0, 15, 0, 0, 15, 0, 0);
    due("place 5, motif 15, of a FRAME", x.home(15), 5);
    tellAt(x, TORN, 3, 0);
    tellAt(x, RETOLD, 3, 0);
    due("DOUBTS are no COUNTS", x.home(15), 5);
  }

  static void homeOfSeveral() {
    sentence("26", "of several the first.");
    TaleDesk x = new TaleDesk();
    for (int place = 5; place >= 1; place--) {
      tellAt(x, TALE, place, 0, 7, 0, 0);
      due("the first so far", x.home(7), place);
    }
  }

  static void homeBeyond() {
    sentence("26", "BEYOND.");
    TaleDesk x = new TaleDesk();
    motifs(x, TALE, 0, 15);
    for (int wrong : outside(0, 15)) {
      due("motif " + wrong, x.home(wrong), BEYOND);
    }
  }

  static void homeNone() {
    sentence("26", "NONE: nowhere any.");
    TaleDesk x = new TaleDesk();
    due("without tales", x.home(0), NONE);
    x.tale(TORN, 0, 0);
    due("in doubt only", x.home(0), NONE);
    x.step(0, 1, 0, 0);
    due("another motif", x.home(0), NONE);
    due("one", x.home(1), 0);
    x.unstep(0);
    due("that went", x.home(1), NONE);
  }

  public static void main(String[] args) throws ReflectiveOperationException {
    runAll(WanderingTest.class);
  }
}
