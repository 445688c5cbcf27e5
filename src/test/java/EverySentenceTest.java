import java.io.IOException;
import java.nio.file.DirectoryStream;
import java.nio.file.Files;
import java.nio.file.Path;
import java.util.ArrayList;
import java.util.LinkedHashMap;
import java.util.List;
import java.util.Map;
import java.util.TreeMap;
import java.util.regex.Matcher;
import java.util.regex.Pattern;

/**
 * That no word of the document's promises and terms is without a test: what the tests by sentence tell
 * in their calls sentence("..", "..") must stand in the document where they say, and all of it together
 * must be all that stands there. Each promise with findings must have its tests in FindingsTest.
 */
public final class EverySentenceTest {
  private static final Check CHECK = new Check();
  private static final Path DOCUMENT = Path.of("../shared/DOC.md");
  private static final Path TESTS = Path.of("src/test/java");
  private static final Pattern QUOTE =
      Pattern.compile("\\bsentence\\(\"([^\"]+)\",\\s*((?:\"[^\"]*\"(?:\\s*\\+\\s*)?)+)\\)");
  private static final Pattern FINDING_TEST = Pattern.compile("\\bsentence\\(\"(\\d+)\", (IN_ORDER|CHANGES_NOTHING)\\)");
  private static final Pattern FINDING = Pattern.compile("(?:^|[.,] )(?:BEYOND|MISSING|SIZE|KIND|FULL|NONE|RING)\\b");
  private static final String INTERFACE = "Ahead of the calls";

  private static String plain(String text) {
    return text.replaceAll("\\s+", " ").trim();
  }

  /** The document's text by promise ("1" to "32"), by point under "Terms" ("Terms 1"), and by heading. */
  private static Map<String, String> sections() throws IOException {
    Map<String, StringBuilder> found = new LinkedHashMap<>();
    String at = "";
    for (String line : Files.readAllLines(DOCUMENT)) {
      Matcher promise = Pattern.compile("## Promise (\\d+): .*").matcher(line);
      Matcher point = Pattern.compile("(\\d+)\\. (.*)").matcher(line);
      String text = line;
      if (line.startsWith("#")) {
        at = promise.matches() ? promise.group(1) : line.replaceAll("^#+ ", "");
        text = "";
      } else if (at.startsWith("Terms") && point.matches()) {
        at = "Terms " + point.group(1);
        text = point.group(2);
      } else if (line.startsWith("```") || line.startsWith(INTERFACE)) {
        text = "";
      }
      found.computeIfAbsent(at, k -> new StringBuilder()).append(' ').append(text);
    }
    Map<String, String> sections = new LinkedHashMap<>();
    found.forEach((where, text) -> sections.put(where, plain(plain(text.toString()).replaceAll("^`[^`]*`: ", ""))));
    return sections;
  }

  private static String sources() throws IOException {
    StringBuilder all = new StringBuilder();
    try (DirectoryStream<Path> files = Files.newDirectoryStream(TESTS, "*Test.java")) {
      for (Path file : files) {
        if (!file.endsWith("EverySentenceTest.java")) {
          all.append(Files.readString(file));
        }
      }
    }
    return all.toString();
  }

  private static Map<String, List<String>> quotes(String sources) {
    Map<String, List<String>> quotes = new TreeMap<>();
    Matcher m = QUOTE.matcher(sources);
    while (m.find()) {
      String words = m.group(2).trim().replaceAll("\"\\s*\\+\\s*\"", "");
      quotes.computeIfAbsent(m.group(1), k -> new ArrayList<>()).add(words.substring(1, words.length() - 1));
    }
    return quotes;
  }

  /** What is left of a text when all that is quoted of it is struck out. */
  private static String left(String text, List<String> quotes) {
    boolean[] quoted = new boolean[text.length()];
    for (String quote : quotes) {
      for (int at = text.indexOf(quote); at >= 0; at = text.indexOf(quote, at + 1)) {
        for (int i = at; i < at + quote.length(); i++) {
          quoted[i] = true;
        }
      }
    }
    StringBuilder rest = new StringBuilder();
    for (int i = 0; i < text.length(); i++) {
      rest.append(quoted[i] ? ' ' : text.charAt(i));
    }
    return plain(rest.toString());
  }

  private static void everyWord(Map<String, String> sections, Map<String, List<String>> quotes) {
    for (Map.Entry<String, List<String>> entry : quotes.entrySet()) {
      String text = sections.getOrDefault(entry.getKey(), "");
      for (String quote : entry.getValue()) {
        CHECK.holds(entry.getKey() + " says: " + quote, text.contains(quote));
      }
    }
    for (Map.Entry<String, String> entry : sections.entrySet()) {
      String where = entry.getKey();
      if (where.startsWith("Terms") || Character.isDigit(where.isEmpty() ? ' ' : where.charAt(0))) {
        String rest = left(entry.getValue(), quotes.getOrDefault(where, List.of()));
        CHECK.holds(where + " has a test of: " + rest, rest.isEmpty());
      }
    }
  }

  private static void everyFinding(Map<String, String> sections, String sources) {
    Map<String, List<String>> kinds = new TreeMap<>();
    Matcher m = FINDING_TEST.matcher(sources);
    while (m.find()) {
      kinds.computeIfAbsent(m.group(1), k -> new ArrayList<>()).add(m.group(2));
    }
    for (int promise = 1; promise <= 32; promise++) {
      String where = String.valueOf(promise);
      List<String> tests = kinds.getOrDefault(where, List.of());
      long findings = FINDING.matcher(sections.getOrDefault(where, "")).results().count();
      CHECK.holds("promise " + where + ": a finding changes nothing", findings == 0 || tests.contains("CHANGES_NOTHING"));
      CHECK.holds("promise " + where + ": findings in order", findings < 2 || tests.contains("IN_ORDER"));
      CHECK.holds("promise " + where + " has findings", promise == 1 || findings > 0);
    }
  }

  public static void main(String[] args) throws IOException {
    Map<String, String> sections = sections();
    String sources = sources();
    Map<String, List<String>> quotes = quotes(sources);
    // The order of findings is tested promise by promise, and told there by its own names.
    quotes.computeIfAbsent("Terms", k -> new ArrayList<>())
        .add(FindingsTest.IN_ORDER + "; " + FindingsTest.CHANGES_NOTHING + ".");
    CHECK.holds("the document has 32 promises", sections.containsKey("32") && !sections.containsKey("33"));
    everyWord(sections, quotes);
    everyFinding(sections, sources);
    CHECK.end("EverySentenceTest");
  }
}
