import java.io.IOException;
import java.nio.file.Files;
import java.nio.file.Path;
import java.util.ArrayList;
import java.util.HashMap;
import java.util.List;
import java.util.Map;
import java.util.regex.Matcher;
import java.util.regex.Pattern;

/** README.md holds: its example answers what it says, and its tables say of calls and refusals what the document does. */
public final class ReadmeTest {
  private static final Path README = Path.of("README.md");
  private static final Pattern CALL = Pattern.compile("desk\\.(\\w+)\\(([^)]*)\\); +// (-?\\d+): .+");
  private static final Pattern HEADING = Pattern.compile("`(?:int|long) (\\w+\\([^)]*\\))`");
  private static final Pattern COST = Pattern.compile("Costs (\\d)");
  private static final Due DUE = new Due("ReadmeTest");

  public static void main(String[] args) throws IOException {
    String readme = Files.readString(README);
    example(readme);
    Map<String, String[]> rows = rows(readme);
    calls(rows, new Document());
    refusals(rows);
    DUE.end();
  }

  private static void example(String readme) {
    Matcher block = Pattern.compile("```java\n(.*?)```", Pattern.DOTALL).matcher(readme);
    DUE.is("the example is there", block.find() ? 1 : 0, 1);
    List<String> lines = new ArrayList<>(List.of(block.group(1).split("\n")));
    DUE.same("the example's first line", lines.remove(0), "LadderSigns desk = new LadderSigns();");
    Run run = new Run(DUE);
    for (String line : lines) {
      if (line.startsWith("//")) continue;
      Matcher call = CALL.matcher(line);
      boolean fits = call.matches();
      DUE.is("a call and its answer: " + line, fits ? 1 : 0, 1);
      if (fits) run.is(Long.parseLong(call.group(3)), call.group(1), numbers(call.group(2)));
    }
  }

  private static long[] numbers(String arguments) {
    String[] parts = arguments.isEmpty() ? new String[0] : arguments.split(", ");
    long[] all = new long[parts.length];
    for (int i = 0; i < parts.length; i++) all[i] = Long.decode(parts[i].replace("L", ""));
    return all;
  }

  /** The rows of all tables, each by what stands first in it. */
  private static Map<String, String[]> rows(String readme) {
    Map<String, String[]> all = new HashMap<>();
    for (String line : readme.split("\n")) {
      if (!line.startsWith("| `")) continue;
      String[] cells = line.substring(1, line.lastIndexOf('|')).split("\\|", -1);
      for (int i = 0; i < cells.length; i++) cells[i] = cells[i].trim();
      DUE.same("another row of " + cells[0], all.put(cells[0], cells) == null, true);
    }
    return all;
  }

  private static void calls(Map<String, String[]> rows, Document document) {
    int seen = 0;
    for (int promise = 2; promise <= Document.PROMISES; promise++) {
      String text = document.promise(promise);
      Matcher heading = HEADING.matcher(text);
      DUE.is("promise " + promise + " is about a call", heading.find() ? 1 : 0, 1);
      String call = heading.group(1).replaceAll("(int|long) ", "");
      String[] cells = rows.get("`" + call + "`");
      DUE.is("a row of four cells about " + call, cells != null && cells.length == 4 ? 1 : 0, 1);
      if (cells == null || cells.length != 4) continue;
      Matcher cost = COST.matcher(text);
      DUE.same("what " + call + " costs", cells[2], cost.find() ? cost.group(1) : "");
      DUE.same("what " + call + " refuses", cells[3], String.join(", ", document.refusals(promise)));
      seen++;
    }
    DUE.is("calls of the face", seen, Both.FACE.size());
  }

  private static void refusals(Map<String, String[]> rows) {
    Map<String, Integer> values = Map.of("NONE", LadderSigns.NONE, "UNKNOWN", LadderSigns.UNKNOWN,
        "OUTSIDE", LadderSigns.OUTSIDE, "STATE", LadderSigns.STATE, "FULL", LadderSigns.FULL);
    for (Map.Entry<String, Integer> refusal : values.entrySet()) {
      String[] cells = rows.get("`" + refusal.getKey() + "`");
      DUE.is("a row of three cells about " + refusal.getKey(), cells != null && cells.length == 3 ? 1 : 0, 1);
      if (cells != null && cells.length == 3) {
        DUE.same("the value of " + refusal.getKey(), cells[1], String.valueOf(refusal.getValue()));
      }
    }
  }
}
