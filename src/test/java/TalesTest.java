/** Promises 1 to 11: a new object, tales, their STEPS and PRINTS, PRICES and WAYS. */
public final class TalesTest {
  private static final Check CHECK = new Check();
  private static final int[] OUTSIDE = {-1, Integer.MIN_VALUE, Integer.MAX_VALUE};

  private static void due(String what, int got, int want) {
    CHECK.due(what, got, want);
  }

  private static void newObject() {
    TaleDesk x = new TaleDesk();
    due("1 tales", x.all(0), 0);
    due("1 steps", x.all(1), 0);
    due("1 findings", x.all(2), 0);
    due("1 price 0", x.price(0, 4), 4);
    due("1 price 1", x.price(1, 1), 1);
    due("1 price 2", x.price(2, 3), 3);
    for (int p = 0; p < 6; p++) {
      for (int q = 0; q < 6; q++) {
        due("1 way " + p + " " + q, x.way(p, q, 0), p == q ? Check.SIZE : 0);
      }
    }
    for (int s = 0; s < 4; s++) {
      due("1 sheet " + s, x.put(s, 0, 0), Check.MISSING);
    }
    due("1 undo", new TaleDesk().undo(), Check.NONE);
  }

  private static void tale() {
    TaleDesk x = new TaleDesk();
    for (int wrong : OUTSIDE) {
      due("2 kind", x.tale(wrong, 0, 0), Check.BEYOND);
      due("2 place", x.tale(0, wrong, 0), Check.BEYOND);
      due("2 day", x.tale(0, 0, wrong), Check.BEYOND);
    }
    due("2 kind 4", x.tale(4, 0, 0), Check.BEYOND);
    due("2 place 6", x.tale(0, 6, 0), Check.BEYOND);
    due("2 day 1000", x.tale(0, 0, 1000), Check.BEYOND);
    for (int i = 0; i < 10; i++) {
      due("2 number", x.tale(i % 4, i % 6, 999 - i), i);
    }
    for (int i = 0; i < 10; i++) {
      due("2 kind", x.told(i, 0), i % 4);
      due("2 place", x.told(i, 1), i % 6);
      due("2 day", x.told(i, 2), 999 - i);
      due("2 no steps", x.told(i, 3), 0);
      due("2 no print", x.told(i, 5), -1);
    }
    due("2 full", x.tale(0, 0, 0), Check.FULL);
    due("2 beyond ahead of full", x.tale(4, 0, 0), Check.BEYOND);
    due("2 still ten", x.all(0), 10);
  }

  private static void as() {
    TaleDesk x = new TaleDesk();
    boolean[][] under = {
      {true, false, false, false}, {true, true, false, false},
      {true, false, true, false}, {true, true, false, true}};
    for (int kind = 0; kind < 4; kind++) {
      x.tale(kind, 0, 0);
      for (int as = 0; as < 4; as++) {
        due("3 " + kind + " as " + as, x.as(kind, as), under[kind][as] ? kind : Check.KIND);
      }
      due("3 no kind", x.as(kind, 4), Check.BEYOND);
      due("3 no kind", x.as(kind, -1), Check.BEYOND);
    }
    due("3 no tale", x.as(4, 0), Check.BEYOND);
    due("3 no tale", x.as(-1, 0), Check.BEYOND);
    due("3 nothing changed", x.told(3, 0), 3);
  }

  private static void step() {
    TaleDesk x = new TaleDesk();
    due("4 no tale", x.step(0, 0, 0, 0), Check.BEYOND);
    x.tale(0, 0, 0);
    x.tale(0, 0, 0);
    for (int wrong : OUTSIDE) {
      due("4 tale", x.step(wrong, 0, 0, 0), Check.BEYOND);
      due("4 motif", x.step(0, wrong, 0, 0), Check.BEYOND);
      due("4 who", x.step(0, 0, wrong, 0), Check.BEYOND);
      due("4 whom", x.step(0, 0, 0, wrong), Check.BEYOND);
    }
    due("4 motif 16", x.step(0, 16, 0, 0), Check.BEYOND);
    due("4 who 4", x.step(0, 0, 4, 0), Check.BEYOND);
    due("4 whom 4", x.step(0, 0, 0, 4), Check.BEYOND);
    for (int i = 0; i < 10; i++) {
      due("4 how many", x.step(0, 15 - i, i % 4, (i + 2) % 4), i + 1);
    }
    due("4 full", x.step(0, 0, 0, 0), Check.FULL);
    due("4 beyond ahead of full", x.step(0, 16, 0, 0), Check.BEYOND);
    due("4 the other one", x.step(1, 7, 3, 3), 1);
    for (int i = 0; i < 10; i++) {
      due("4 motif", x.of(0, i, 0), 15 - i);
      due("4 who", x.of(0, i, 1), i % 4);
      due("4 whom", x.of(0, i, 2), (i + 2) % 4);
    }
  }

  private static void unstep() {
    TaleDesk x = new TaleDesk();
    due("5 no tale", x.unstep(0), Check.BEYOND);
    x.tale(0, 0, 0);
    due("5 none", x.unstep(0), Check.NONE);
    x.step(0, 1, 0, 1);
    x.step(0, 2, 2, 3);
    due("5 one left", x.unstep(0), 1);
    due("5 the first is left", x.of(0, 0, 0), 1);
    due("5 the last went", x.of(0, 1, 0), Check.BEYOND);
    due("5 none left", x.unstep(0), 0);
    due("5 none again", x.unstep(0), Check.NONE);
    due("5 negative", x.unstep(-1), Check.BEYOND);
    due("5 a new one", x.step(0, 5, 1, 1), 1);
    due("5 a new one", x.of(0, 0, 0), 5);
  }

  private static void of() {
    TaleDesk x = new TaleDesk();
    x.tale(2, 0, 0);
    x.step(0, 9, 2, 3);
    x.step(0, 15, 0, 1);
    due("6 motif", x.of(0, 0, 0), 9);
    due("6 who", x.of(0, 0, 1), 2);
    due("6 whom", x.of(0, 0, 2), 3);
    due("6 motif", x.of(0, 1, 0), 15);
    due("6 who", x.of(0, 1, 1), 0);
    due("6 whom", x.of(0, 1, 2), 1);
    due("6 what", x.of(0, 0, 3), Check.BEYOND);
    due("6 what", x.of(0, 0, -1), Check.BEYOND);
    due("6 step", x.of(0, 2, 0), Check.BEYOND);
    due("6 step", x.of(0, -1, 0), Check.BEYOND);
    due("6 step", x.of(0, Integer.MAX_VALUE, 0), Check.BEYOND);
    due("6 tale", x.of(1, 0, 0), Check.BEYOND);
    due("6 tale", x.of(Integer.MIN_VALUE, 0, 0), Check.BEYOND);
  }

  private static void told() {
    TaleDesk x = new TaleDesk();
    due("7 no tale", x.told(0, 0), Check.BEYOND);
    x.tale(2, 5, 999);
    int[] laid = {0, 1, 0, 1, 2, 3, 4, 5, 6, 7, 8};
    for (int n = 0; n <= 10; n++) {
      due("7 steps", x.told(0, 3), n);
      due("7 laid of a frame of " + n, x.told(0, 4), laid[n]);
      x.step(0, 1, 1, 1);
    }
    due("7 kind", x.told(0, 0), 2);
    due("7 place", x.told(0, 1), 5);
    due("7 day", x.told(0, 2), 999);
    due("7 print", x.told(0, 5), -1);
    int found = x.all(2);
    due("7 print", x.told(0, 5), -1);
    due("7 -1 is no finding", x.all(2), found);
    due("7 what", x.told(0, 6), Check.BEYOND);
    due("7 what", x.told(0, -1), Check.BEYOND);
    for (int kind : new int[] {0, 1, 3}) {
      int t = x.tale(kind, 0, 0);
      x.step(t, 0, 0, 0);
      x.step(t, 0, 0, 0);
      due("7 all are laid", x.told(t, 4), 2);
    }
  }

  private static void print() {
    TaleDesk x = new TaleDesk();
    due("8 no tale", x.print(0, -1), Check.BEYOND);
    for (int i = 0; i < 3; i++) {
      x.tale(3, 0, 0);
    }
    for (int kind = 0; kind < 3; kind++) {
      x.tale(kind, 0, 0);
      due("8 not retold", x.print(3 + kind, 0), Check.KIND);
      due("8 not retold", x.print(3 + kind, 3 + kind), Check.KIND);
      due("8 beyond ahead of kind", x.print(3 + kind, 9), Check.BEYOND);
    }
    due("8 no other", x.print(0, 6), Check.BEYOND);
    due("8 no other", x.print(0, -2), Check.BEYOND);
    due("8 itself", x.print(0, 0), Check.RING);
    due("8 first", x.print(0, 1), -1);
    due("8 chain", x.print(1, 2), -1);
    due("8 ring of three", x.print(2, 0), Check.RING);
    due("8 ring of two", x.print(2, 1), Check.RING);
    due("8 unchanged", x.told(2, 5), -1);
    due("8 the same again", x.print(0, 1), 1);
    due("8 another", x.print(0, 3), 1);
    due("8 no ring now", x.print(2, 0), -1);
    due("8 ring", x.print(0, 1), Check.RING);
    due("8 none", x.print(2, -1), 0);
    due("8 none", x.told(2, 5), -1);
    TaleDesk row = new TaleDesk();
    for (int i = 0; i < 10; i++) {
      row.tale(3, 0, 0);
      due("8 ten in a row", row.print(i, i - 1), -1);
    }
    due("8 ring of ten", row.print(0, 9), Check.RING);
    int found = x.all(2);
    due("8 none twice", x.print(2, -1), -1);
    due("8 -1 is no finding", x.all(2), found);
  }

  private static void recode() {
    TaleDesk x = new TaleDesk();
    due("9 without tales", x.recode(0, 15), 0);
    x.tale(0, 0, 0);
    x.tale(2, 0, 0);
    x.step(0, 3, 1, 2);
    x.step(0, 4, 0, 3);
    x.step(1, 3, 2, 2);
    due("9 motif", x.recode(16, 0), Check.BEYOND);
    due("9 motif", x.recode(-1, 0), Check.BEYOND);
    due("9 other", x.recode(0, 16), Check.BEYOND);
    due("9 other", x.recode(0, -1), Check.BEYOND);
    due("9 how many", x.recode(3, 15), 2);
    due("9 now", x.of(0, 0, 0), 15);
    due("9 who stays", x.of(0, 0, 1), 1);
    due("9 whom stays", x.of(0, 0, 2), 2);
    due("9 another motif stays", x.of(0, 1, 0), 4);
    due("9 in the other tale", x.of(1, 0, 0), 15);
    x.step(1, 6, 0, 3);
    due("9 a later step of a later tale", x.recode(6, 7), 1);
    due("9 a later step of a later tale", x.of(1, 1, 0), 7);
    due("9 a later step of a later tale", x.of(1, 1, 2), 3);
    x.unstep(1);
    due("9 none left", x.recode(3, 15), 0);
    due("9 to itself", x.recode(15, 15), 2);
    x.unstep(1);
    due("9 not those that went", x.recode(15, 1), 1);
    due("9 costs follow", x.cost(0, 0), 0);
  }

  private static void price() {
    TaleDesk x = new TaleDesk();
    due("10 which", x.price(3, 0), Check.BEYOND);
    due("10 which", x.price(-1, 0), Check.BEYOND);
    due("10 v", x.price(0, 10), Check.BEYOND);
    due("10 v", x.price(0, -1), Check.BEYOND);
    due("10 was", x.price(0, 9), 4);
    due("10 was", x.price(0, 0), 9);
    due("10 was", x.price(0, 7), 0);
    due("10 another", x.price(1, 2), 1);
    due("10 another", x.price(2, 5), 3);
    x.tale(0, 0, 0);
    x.tale(0, 0, 0);
    x.step(0, 1, 0, 0);
    x.step(1, 2, 0, 1);
    due("10 motif and role", x.cost(0, 1), 9);
    x.price(1, 9);
    due("10 two alone", x.cost(0, 1), 10);
    x.price(2, 0);
    due("10 alone for nothing", x.cost(0, 1), 0);
  }

  private static void way() {
    TaleDesk x = new TaleDesk();
    due("11 place", x.way(-1, 0, 0), Check.BEYOND);
    due("11 place", x.way(6, 0, 0), Check.BEYOND);
    due("11 other", x.way(0, -1, 0), Check.BEYOND);
    due("11 other", x.way(0, 6, 0), Check.BEYOND);
    due("11 days", x.way(0, 1, 1000), Check.BEYOND);
    due("11 days", x.way(0, 1, -1), Check.BEYOND);
    due("11 one", x.way(3, 3, 0), Check.SIZE);
    due("11 beyond ahead of size", x.way(3, 3, 1000), Check.BEYOND);
    due("11 was", x.way(0, 5, 999), 0);
    due("11 both ways", x.way(5, 0, 7), 999);
    due("11 both ways", x.way(0, 5, 8), 7);
    due("11 another one", x.way(1, 5, 8), 0);
  }

  public static void main(String[] args) {
    newObject();
    tale();
    as();
    step();
    unstep();
    of();
    told();
    print();
    recode();
    price();
    way();
    CHECK.end("TalesTest");
  }
}
