import java.io.IOException;
import java.lang.reflect.Method;
import java.lang.reflect.Modifier;
import java.nio.file.Files;
import java.nio.file.Path;
import java.util.List;
import java.util.stream.Collectors;
import java.util.stream.Stream;

/** What README.md shows is so: the answers behind the calls of its example, the tests and calls that it lists. */
public final class ReadmeTest {
  private static List<String> readme;
  private static int shown = 0;

  /** A call of the example: the number behind its // is what it answers. */
  private static void shows(String call, long answer) {
    shown++;
    List<String> lines = readme.stream().filter(line -> line.startsWith(call + ";")).collect(Collectors.toList());
    Check.due("lines of README.md with " + call, lines.size(), 1);
    for (String line : lines) {
      Check.holds(call + " answers " + answer + ", README.md has: " + line, line.matches(".*// " + answer + ": .*"));
    }
  }

  private static void example() {
    MirrorPlate x = new MirrorPlate();
    String clauses = "wear 10;risk 30 k=1";
    Check.holds("the clauses stand in README.md", String.join("\n", readme).contains('"' + clauses + '"'));
    for (char sign : clauses.toCharArray()) {
      x.feed(sign);
    }
    shows("x.plate()", x.plate());
    shows("x.mark(1, 0, 40, 5)", x.mark(1, 0, 40, 5));
    shows("x.of(0, 8)", x.of(0, 8));
    shows("x.cut(0, 3)", x.cut(0, 3));
    shows("x.dark(0, 10)", x.dark(0, 10));
    shows("x.good(-1)", x.good(-1));
    shows("x.cut(9, 3)", x.cut(9, 3));
    Check.due("calls of the example", readme.stream().filter(line -> line.startsWith("x.")).count(), shown);
  }

  private static void lists(String what, Stream<String> names) {
    String text = String.join("\n", readme);
    names.forEach(name -> Check.holds("README.md lists the " + what + " " + name, text.contains("`" + name + "`")));
  }

  public static void main(String[] args) throws IOException {
    readme = Files.readAllLines(Path.of("README.md"));
    example();
    lists("call", Stream.of(MirrorPlate.class.getDeclaredMethods())
        .filter(m -> Modifier.isPublic(m.getModifiers())).map(Method::getName));
    try (Stream<Path> files = Files.list(Path.of("src/test/java"))) {
      lists("test", files.map(f -> f.getFileName().toString()).filter(f -> f.endsWith("Test.java")).map(f -> f.replace(".java", "")));
    }
    Check.finish();
  }
}
