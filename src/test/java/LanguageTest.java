import java.io.IOException;
import java.lang.reflect.Constructor;
import java.lang.reflect.Field;
import java.lang.reflect.Method;
import java.lang.reflect.Modifier;
import java.nio.file.Files;
import java.nio.file.Path;
import java.util.ArrayList;
import java.util.HashMap;
import java.util.HashSet;
import java.util.List;
import java.util.Map;
import java.util.Set;
import java.util.TreeSet;
import java.util.regex.Matcher;
import java.util.regex.Pattern;

/** The rules of LANGUAGE.md that can be looked at from outside or in the text. */
public final class LanguageTest {
  private static final Check CHECK = new Check();
  private static final String FACE =
      "tale(int,int,int) as(int,int) step(int,int,int,int) unstep(int) of(int,int,int) told(int,int) "
      + "print(int,int) recode(int,int) price(int,int) way(int,int,int) cost(int,int) "
      + "carried(int,int,int) pair(int,int,int) pairs(int,int,boolean) mould(int) spread(int) tree(int) "
      + "branch(int,int) nearest(int) source(int) first(int) borrowed(int,int,int) "
      + "joined(int,int,int,boolean) count(int,int,boolean) home(int) sheet(int,int,int) "
      + "put(int,int,int) copy(int,int,int,int,int) lay(int,int) undo() all(int)";
  private static final String[] BARRED = {
    "throw", "try", "catch", "finally", "synchronized", "assert", "->", "::", "new Object", "Exact",
    "System.out", "static {", "Iterator", "volatile", "transient", "native", "hashCode", "toString"};
  private static final Pattern METHOD =
      Pattern.compile("^ {2,4}(?:(?:public|private|static|final) )*(?:[\\w\\[\\]]+ )?(\\w+)\\([^;]*\\) \\{$");
  private static final Pattern CALL = Pattern.compile("(\\w+)\\(");
  /**
   * Rule 4, "The library: only what stands here." Of its list what the program has use for; a constant
   * such as Integer.MAX_VALUE is not there.
   */
  private static final Set<String> LIBRARY = Set.of(
      "System.arraycopy", "Arrays.fill", "Arrays.copyOf", "Arrays.copyOfRange", "Integer.bitCount",
      "Integer.compare", "Math.min", "Math.max", "Math.abs", "Math.floorDiv", "Math.floorMod");
  private static final Pattern LIBRARY_USE = Pattern.compile("\\b[A-Z]\\w*[a-z]\\w*\\.\\w+");
  private static final Pattern CONSTRUCTOR = Pattern.compile("^ {2,4}(?:public |private )?[A-Z]\\w*\\(.*\\) \\{$");
  private static final Pattern HANDED_OUT = Pattern.compile("\\bnew \\w+\\([^)]|\\bthis\\b(?!\\.)");

  private static String signature(Method m) {
    List<String> kinds = new ArrayList<>();
    for (Class<?> c : m.getParameterTypes()) {
      kinds.add(c.getName());
    }
    return m.getName() + "(" + String.join(",", kinds) + ")";
  }

  private static void face() {
    Set<String> want = new TreeSet<>(List.of(FACE.split(" ")));
    Set<String> got = new TreeSet<>();
    Set<String> publicNames = new HashSet<>();
    for (Method m : TaleDesk.class.getDeclaredMethods()) {
      boolean open = !Modifier.isPrivate(m.getModifiers());
      if (open) {
        got.add(signature(m));
        publicNames.add(m.getName());
        CHECK.holds("1 public: " + m, Modifier.isPublic(m.getModifiers()) && m.getReturnType() == int.class);
      }
    }
    CHECK.holds("1 the face is " + got, got.equals(want));
    CHECK.holds("1 the class", Modifier.isPublic(TaleDesk.class.getModifiers())
        && Modifier.isFinal(TaleDesk.class.getModifiers()));
    for (Constructor<?> c : TaleDesk.class.getDeclaredConstructors()) {
      CHECK.holds("1 constructor " + c, Modifier.isPublic(c.getModifiers()) && c.getParameterCount() == 0);
    }
    for (Class<?> c : TaleDesk.class.getDeclaredClasses()) {
      CHECK.holds("1 class inside " + c, Modifier.isStatic(c.getModifiers())
          && !Modifier.isPublic(c.getModifiers()) && !Modifier.isProtected(c.getModifiers()));
      inside(c, publicNames);
    }
    inside(TaleDesk.class, publicNames);
    CHECK.holds("11 at most twelve classes", TaleDesk.class.getDeclaredClasses().length < 12);
  }

  private static void inside(Class<?> c, Set<String> publicNames) {
    int fields = 0;
    for (Field f : c.getDeclaredFields()) {
      boolean fixed = Modifier.isStatic(f.getModifiers());
      fields += fixed ? 0 : 1;
      CHECK.holds("5 static and final: " + f, !fixed || Modifier.isFinal(f.getModifiers()));
      CHECK.holds("1 private: " + f, c != TaleDesk.class || Modifier.isPrivate(f.getModifiers()));
    }
    CHECK.holds("11 at most twenty fields: " + c, fields <= 20);
    for (Method m : c.getDeclaredMethods()) {
      CHECK.holds("11 at most seven parameters: " + m, m.getParameterCount() <= 7);
      boolean face = c == TaleDesk.class && Modifier.isPublic(m.getModifiers());
      CHECK.holds("1 a name of its own: " + m, face || !publicNames.contains(m.getName()));
    }
  }

  private static void text(List<String> lines) {
    for (String line : lines) {
      String code = line.replaceAll("/\\*\\*.*\\*/|//.*", "");
      for (String word : BARRED) {
        boolean letters = Character.isLetter(word.charAt(0));
        Matcher m = Pattern.compile((letters ? "\\b" : "") + Pattern.quote(word)).matcher(code);
        CHECK.holds("6 no " + word + ": " + line, !m.find());
      }
      CHECK.holds("4 plain signs: " + line, line.chars().allMatch(c -> c >= 32 && c < 127));
      if (code.startsWith("import")) {
        CHECK.holds("4 library: " + line, code.equals("import java.util.Arrays;"));
      } else {
        Matcher use = LIBRARY_USE.matcher(code);
        while (use.find()) {
          CHECK.holds("4 only what stands there, not " + use.group(), LIBRARY.contains(use.group()));
        }
      }
    }
  }

  /** Rule 12, "A constructor .. hands out nothing of the object that it makes": neither it nor a field. */
  private static void constructors(List<String> lines) {
    String end = "";
    int found = 0;
    for (String line : lines) {
      if (CONSTRUCTOR.matcher(line).matches()) {
        end = line.startsWith("    ") ? "    }" : "  }";
        found++;
      } else if (line.equals(end)) {
        end = "";
      }
      CHECK.holds("12 hands out nothing: " + line, end.isEmpty() || !HANDED_OUT.matcher(line).find());
    }
    CHECK.holds("12 constructors were found", found >= 3);
  }

  /** The longest row of calls, methods of one name taken as one; a recursion would never end here. */
  private static int depth(String name, Map<String, Set<String>> calls, int open) {
    if (open > 30) {
      return open;
    }
    int deepest = 0;
    for (String called : calls.getOrDefault(name, Set.of())) {
      deepest = Math.max(deepest, depth(called, calls, open + 1));
    }
    return deepest + 1;
  }

  private static void methods(List<String> lines) {
    Map<String, Set<String>> calls = new HashMap<>();
    for (int i = 0; i < lines.size(); i++) {
      Matcher m = METHOD.matcher(lines.get(i));
      if (!m.find()) {
        continue;
      }
      String indent = lines.get(i).substring(0, lines.get(i).length() - lines.get(i).trim().length());
      int end = i + 1;
      Set<String> called = calls.computeIfAbsent(m.group(1), k -> new HashSet<>());
      while (!lines.get(end).equals(indent + "}")) {
        Matcher call = CALL.matcher(lines.get(end).replaceAll("\\b(if|for|while|switch) \\(", ""));
        while (call.find()) {
          called.add(call.group(1));
        }
        end++;
      }
      CHECK.holds("11 at most sixty lines: " + m.group(1), end - i < 60);
    }
    CHECK.holds("11 methods were found", calls.size() > 60);
    for (String name : calls.keySet()) {
      int deep = depth(name, calls, 0);
      CHECK.holds("11 at most eight deep: " + name + " goes " + deep, deep <= 8);
    }
  }

  public static void main(String[] args) throws IOException {
    List<String> lines = Files.readAllLines(Path.of("src/main/java/TaleDesk.java"));
    face();
    text(lines);
    constructors(lines);
    methods(lines);
    CHECK.end("LanguageTest");
  }
}
