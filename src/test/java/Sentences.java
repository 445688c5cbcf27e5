import java.lang.reflect.Method;
import java.lang.reflect.Modifier;
import java.util.Arrays;
import java.util.Comparator;

/**
 * What the tests by sentence share. Each of their methods is the test of one sentence, or of one part
 * of a long one; it begins by telling which: sentence("2", "FULL: there are 10.") is of promise 2,
 * sentence("Terms 4", ..) of point 4 under "Terms". EverySentenceTest looks whether all are told.
 */
abstract class Sentences {
  static final Check CHECK = new Check();

  static final int BEYOND = Check.BEYOND;
  static final int MISSING = Check.MISSING;
  static final int SIZE = Check.SIZE;
  static final int KIND = Check.KIND;
  static final int FULL = Check.FULL;
  static final int NONE = Check.NONE;
  static final int RING = Check.RING;

  static final int TALE = 0;
  static final int TORN = 1;
  static final int FRAME = 2;
  static final int RETOLD = 3;

  private static String current = "";

  static void sentence(String where, String words) {
    String head = Character.isDigit(where.charAt(0)) ? "promise " + where : where;
    current = head + ", \"" + words + "\": ";
  }

  /** Runs every method of a test that takes nothing and answers nothing, so that none is forgotten. */
  static void runAll(Class<?> test) throws ReflectiveOperationException {
    Method[] methods = test.getDeclaredMethods();
    Arrays.sort(methods, Comparator.comparing(Method::getName));
    for (Method m : methods) {
      boolean isTest = m.getReturnType() == void.class && m.getParameterCount() == 0;
      if (isTest && Modifier.isStatic(m.getModifiers()) && !m.isSynthetic()) {
        current = "";
        m.invoke(null);
        CHECK.holds(m.getName() + " tells its sentence", !current.isEmpty());
      }
    }
    CHECK.end(test.getName());
  }

  static void due(String what, int got, int want) {
    CHECK.due(current + what, got, want);
  }

  static void holds(String what, boolean good) {
    CHECK.holds(current + what, good);
  }

  /** The nearest numbers outside of a range, and the farthest ones. */
  static int[] outside(int least, int most) {
    return new int[] {least - 1, most + 1, Integer.MIN_VALUE, Integer.MAX_VALUE};
  }

  /** A tale at a place and day, with STEPS given as threes of numbers. */
  static int tellAt(TaleDesk x, int kind, int place, int day, int... steps) {
    int tale = x.tale(kind, place, day);
    for (int i = 0; i + 2 < steps.length; i += 3) {
      x.step(tale, steps[i], steps[i + 1], steps[i + 2]);
    }
    return tale;
  }

  static int tell(TaleDesk x, int kind, int... steps) {
    return tellAt(x, kind, 0, 0, steps);
  }

  /** A tale in which role 0 does each motif to role 1. */
  static int motifs(TaleDesk x, int kind, int... motifs) {
    int tale = x.tale(kind, 0, 0);
    for (int motif : motifs) {
      x.step(tale, motif, 0, 1);
    }
    return tale;
  }

  /** A sheet of so many bits with these numbers. */
  static void write(TaleDesk x, int s, int bits, int... numbers) {
    x.sheet(s, bits, numbers.length);
    for (int i = 0; i < numbers.length; i++) {
      x.put(s, i, numbers[i]);
    }
  }

  /** A tale's STEPS, all of them, as threes of numbers. */
  static void dueSteps(String what, TaleDesk x, int tale, int... steps) {
    due(what + ", STEPS", x.told(tale, 3), steps.length / 3);
    for (int i = 0; i < steps.length; i++) {
      due(what + ", STEP " + i / 3 + ", " + i % 3, x.of(tale, i / 3, i % 3), steps[i]);
    }
  }
}
