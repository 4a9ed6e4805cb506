import java.io.IOException;
import java.nio.file.Files;
import java.nio.file.Path;
import java.util.LinkedHashMap;
import java.util.Map;
import java.util.regex.Matcher;
import java.util.regex.Pattern;

/** ../shared/DOC.md by its sections: "w", "t1" to "t3", "p01" to "p45", each a single line of text. */
final class Document {
  private static final Path PLACE = Path.of("../shared/DOC.md");
  private static final Pattern HEADING = Pattern.compile("(?m)^(?:## (.*)|==== (\\d) )");

  private final Map<String, String> sections = new LinkedHashMap<>();

  Document() throws IOException {
    String text = Files.readString(PLACE);
    Matcher heading = HEADING.matcher(text);
    String name = "";
    int start = 0;
    while (heading.find()) {
      keep(name, text.substring(start, heading.start()));
      name = heading.group(2) != null ? "t" + heading.group(2) : nameOf(heading.group(1));
      start = heading.end();
    }
  }

  private static String nameOf(String heading) {
    Matcher promise = Pattern.compile("Promise (\\d+): .*").matcher(heading);
    if (promise.matches()) {
      return String.format("p%02d", Integer.parseInt(promise.group(1)));
    }
    return heading.equals("What it is") ? "w" : "";
  }

  private void keep(String name, String text) {
    if (!name.isEmpty()) {
      sections.put(name, text.replaceAll("\\s+", " ").trim());
    }
  }

  Map<String, String> sections() {
    return sections;
  }
}
