import java.io.IOException;
import java.nio.file.Files;
import java.nio.file.Path;
import java.util.LinkedHashSet;
import java.util.Set;
import java.util.regex.Matcher;
import java.util.regex.Pattern;

/** ../shared/DOC.md, with one space wherever it has some. */
final class Document {
  static final int PROMISES = 27;

  private static final Path FILE = Path.of("..", "shared", "DOC.md");
  private static final Pattern REFUSAL = Pattern.compile("NONE|UNKNOWN|OUTSIDE|STATE|FULL");

  private final String text;

  Document() throws IOException {
    text = Files.readString(FILE).replaceAll("\\s+", " ");
  }

  String terms() {
    return between("## Terms", "## Promise 1:");
  }

  String promise(int number) {
    return between("## Promise " + number + ":", "## ");
  }

  /** The refusals that a promise tells, the first one first. */
  Set<String> refusals(int promise) {
    Set<String> all = new LinkedHashSet<>();
    Matcher refusal = REFUSAL.matcher(promise(promise));
    while (refusal.find()) all.add(refusal.group());
    return all;
  }

  private String between(String heading, String next) {
    int from = text.indexOf(heading);
    if (from < 0) return "";
    int to = text.indexOf(next, from + heading.length());
    return to < 0 ? text.substring(from) : text.substring(from, to);
  }
}
