import java.io.IOException;
import java.lang.reflect.Method;
import java.lang.reflect.Modifier;
import java.nio.file.Files;
import java.nio.file.Path;

/** That README.md says how to use the class and how to run its tests: its example answers as it says there. */
public final class ReadmeTest {
  private static final Check CHECK = new Check();
  private static String page = "";
  /** Where the example's next line is looked for, so that its lines come in the order of the calls. */
  private static int place = 0;

  private static void line(String call, int got) {
    int at = page.indexOf(call, place);
    CHECK.holds("README.md shows " + call, at >= 0);
    if (at >= 0) {
      place = at + call.length();
      String told = page.substring(place, page.indexOf('\n', place)).trim();
      CHECK.holds(call + " answered " + got + ", README.md says " + told, told.matches("// " + got + "(:.*)?"));
    }
  }

  private static void example() {
    TaleDesk desk = new TaleDesk();
    int old = desk.tale(0, 0, 10);
    line("int old = desk.tale(0, 0, 10);", old);
    line("desk.step(old, 1, 0, 1);", desk.step(old, 1, 0, 1));
    line("desk.step(old, 2, 1, 0);", desk.step(old, 2, 1, 0));
    int torn = desk.tale(1, 2, 30);
    line("int torn = desk.tale(1, 2, 30);", torn);
    line("desk.step(torn, 1, 3, 2);", desk.step(torn, 1, 3, 2));
    line("desk.cost(torn, old);", desk.cost(torn, old));
    line("desk.carried(torn, old, 3);", desk.carried(torn, old, 3));
    line("desk.pair(torn, old, 0);", desk.pair(torn, old, 0));
    line("desk.mould(1 << old | 1 << torn);", desk.mould(1 << old | 1 << torn));
    line("desk.source(torn);", desk.source(torn));
    line("desk.way(0, 2, 21);", desk.way(0, 2, 21));
    line("desk.source(torn);", desk.source(torn));
    line("desk.undo();", desk.undo());
    int end = page.indexOf("```", place);
    CHECK.holds("README.md shows no call more", end >= 0 && !page.substring(place, end).contains("desk."));
  }

  private static void everyCall() {
    for (Method m : TaleDesk.class.getDeclaredMethods()) {
      if (Modifier.isPublic(m.getModifiers())) {
        CHECK.holds("README.md names " + m.getName(), page.contains("`" + m.getName() + "`"));
      }
    }
  }

  public static void main(String[] args) throws IOException {
    page = Files.readString(Path.of("README.md"));
    example();
    everyCall();
    CHECK.holds("README.md says how to run the tests", page.contains("`.ci/run`"));
    CHECK.end("ReadmeTest");
  }
}
