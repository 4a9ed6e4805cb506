import java.io.IOException;
import java.lang.reflect.InvocationTargetException;
import java.lang.reflect.Method;
import java.lang.reflect.Modifier;
import java.util.ArrayList;
import java.util.Arrays;
import java.util.Comparator;
import java.util.List;
import java.util.Map;
import java.util.TreeSet;
import java.util.regex.Matcher;
import java.util.regex.Pattern;

/**
 * One test for each sentence of ../shared/DOC.md that names a boundary case; each test bears the words
 * that it is about. Runs them all, and looks whether a boundary that the document names has no test.
 * With an argument (p06, t2, p06_bad): runs those alone whose names begin with it, and tells their words.
 */
public final class EdgesTest {
  private static final Class<?>[] EDGES = {EdgesOfTerms1.class, EdgesOfTerms1Marks.class, EdgesOfTerms2.class,
      EdgesOfTerms2Told.class, EdgesOfTerms3.class, EdgesOfPromises1To16.class, EdgesOfPromises17To45.class};

  /** What in the document names a boundary: limits, refusals, what there is none of, what is cut or wraps around. */
  private static final Pattern BOUNDARY = Pattern.compile("\\b(NONE|BAD|STATE|FULL|NO|[Aa]t most|at least|at first|held to"
      + "|of several|none|no|No|without|beyond|wrapping|modulo|above|below|passed over|looked at in|within|nearer|or more|empty"
      + "|if less|too early|holds|stays|alone|kept|latest|PRINT now|does not now|other is|others are|ahead of all"
      + "|becomes 0|does not change|not CUT|one under that|kept or not|last n|first 4|first 20|nothing)\\b|-\\d+|\\d+ \\.\\. \\d+|\\(cut\\b|-5 as 0");

  private static String sectionOf(Method test) {
    String name = test.getName();
    return name.indexOf('_') < 0 ? "" : name.substring(0, name.indexOf('_'));
  }

  private static List<Method> tests(String beginning) {
    List<Method> tests = new ArrayList<>();
    for (Class<?> edges : EDGES) {
      for (Method m : edges.getDeclaredMethods()) {
        boolean isTest = m.isAnnotationPresent(Says.class);
        if (!m.isSynthetic()) {
          Check.holds(m + ": a test bears its words, all else is private", isTest != Modifier.isPrivate(m.getModifiers()));
        }
        if (isTest && m.getName().startsWith(beginning)) {
          tests.add(m);
        }
      }
    }
    tests.sort(Comparator.comparing(Method::getName));
    return tests;
  }

  private static void run(Method test) throws IllegalAccessException {
    Check.test(test.getName() + " (\"" + test.getAnnotation(Says.class).value() + "\")");
    int before = Check.looked();
    try {
      test.invoke(null);
    } catch (InvocationTargetException e) {
      Check.holds("nothing is thrown, but " + e.getCause(), false);
    }
    Check.holds("something is looked at", Check.looked() > before);
    Check.test("");
  }

  /** The words of a test stand once in its section. */
  private static void quotes(Method test, Map<String, String> sections) {
    String text = sections.getOrDefault(sectionOf(test), "");
    String words = test.getAnnotation(Says.class).value();
    int first = text.indexOf(words);
    Check.holds(test.getName() + ": the document says \"" + words + "\"", first >= 0);
    Check.holds(test.getName() + ": it says so once, \"" + words + "\"", first == text.lastIndexOf(words));
  }

  /** Each boundary that is named in a section lies in the words of one of its tests. */
  private static void nothingIsLeftOut(String section, String text, List<Method> tests) {
    boolean[] said = new boolean[text.length()];
    int many = 0;
    for (Method test : tests) {
      String words = test.getAnnotation(Says.class).value();
      int start = text.indexOf(words);
      if (sectionOf(test).equals(section) && start >= 0) {
        many++;
        Arrays.fill(said, start, start + words.length(), true);
      }
    }
    Check.holds(section + " has tests", many > 0);
    Matcher boundary = BOUNDARY.matcher(text);
    while (!section.equals("w") && boundary.find()) {
      boolean whole = true;
      for (int i = boundary.start(); i < boundary.end(); i++) {
        whole &= said[i];
      }
      int from = Math.max(0, boundary.start() - 40);
      Check.holds(section + ": a test for '" + boundary.group() + "' in \""
          + text.substring(from, Math.min(text.length(), boundary.end() + 30)) + "\"", whole);
    }
  }

  public static void main(String[] args) throws IOException, IllegalAccessException {
    List<Method> tests = tests(args.length > 0 ? args[0] : "");
    for (Method test : tests) {
      run(test);
      if (args.length > 0) {
        System.out.println(test.getName() + ": " + test.getAnnotation(Says.class).value());
      }
    }
    Check.holds("there are such tests", !tests.isEmpty());
    if (args.length == 0) {
      Map<String, String> sections = new Document().sections();
      Check.due("sections of the document", sections.size(), 1 + 3 + 45);
      Check.due("names of tests, each once", tests.stream().map(Method::getName).collect(
          java.util.stream.Collectors.toCollection(TreeSet::new)).size(), tests.size());
      tests.forEach(test -> quotes(test, sections));
      sections.forEach((section, text) -> nothingIsLeftOut(section, text, tests));
      System.out.println(tests.size() + " tests of edges");
    }
    Check.finish();
  }
}
