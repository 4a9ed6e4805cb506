import java.lang.reflect.InvocationTargetException;
import java.lang.reflect.Method;
import java.util.ArrayList;
import java.util.List;

/** Seeded runs of 512 calls on fresh objects, each answer compared with Oracle's. */
public final class RunsTest {
  private static final int RUNS = 400;
  private static final int CALLS = 512;
  private static final String[] NAMES = {"mark", "mark", "mark", "row", "row", "cut", "cut", "cut", "rest", "mend", "over",
      "print", "print", "of", "of", "told", "dark", "good", "first", "faded", "order", "rested", "flaws", "clean", "mirror",
      "beside", "crowd", "room", "proof", "proofs", "mends", "worth", "best", "see", "ran", "hand", "errs", "odds", "mean",
      "plan", "plan", "done", "done", "book", "looked", "act", "act", "trace", "as", "image", "undo", "count", "tape", "feed",
      "plate"};
  private static long seed = 0;
  private static int undone = 0;

  /** The same numbers on every machine and in every run. */
  private static int below(int n) {
    seed = seed * 6364136223846793005L + 1442695040888963407L;
    return (int) Math.floorMod(seed >>> 33, (long) n);
  }

  private static int edge() {
    int[] edges = {-1, -2, 0, 1, 30, 31, 60, 61, 99, 100, 127, 128, 999, 1000, Integer.MIN_VALUE, Integer.MAX_VALUE};
    return edges[below(edges.length)];
  }

  private static int oneOf(int least, int most) {
    return least + below(most - least + 1);
  }

  private static int[] arguments(String name, Oracle o) {
    int marks = Math.max(1, o.count(0));
    int mark = below(marks);
    int[] a = switch (name) {
      case "feed" -> new int[] {"wear mndskxtv<=>()!&|;0123456789".charAt(below(32))};
      case "mark" -> new int[] {below(7), below(10), below(3) == 0 ? below(100) : below(20), oneOf(1, 9)};
      case "row" -> new int[] {mark, below(4), below(10)};
      case "of" -> new int[] {mark, below(11)};
      case "told" -> new int[] {below(5)};
      case "cut" -> new int[] {mark, below(3) == 0 ? below(100) : below(30)};
      case "rest" -> new int[] {below(20)};
      case "mend", "over", "mirror", "beside", "worth" -> new int[] {mark};
      case "good" -> new int[] {oneOf(-1, marks - 1)};
      case "print" -> new int[] {below(6) == 0 ? below(1000) : below(40)};
      case "dark" -> new int[] {mark, below(2) == 0 ? below(1000) : below(100)};
      case "faded" -> new int[] {below(2) == 0 ? below(1000) : below(100)};
      case "order" -> new int[] {oneOf(-1, 5)};
      case "flaws", "clean" -> new int[] {below(2)};
      case "room" -> new int[] {oneOf(1, 9)};
      case "proof" -> new int[] {below(10)};
      case "see" -> new int[] {below(9) == 0 ? -1 : mark, below(2) == 0 ? o.dark(mark, below(100)) : below(31)};
      case "ran" -> new int[] {below(2)};
      case "hand" -> new int[] {below(100)};
      case "odds" -> new int[] {below(31), below(200), below(2)};
      case "mean" -> new int[] {below(200), below(2)};
      case "plan" -> new int[] {below(20) == 0 ? -1 : below(5), mark};
      case "done" -> new int[] {below(3)};
      case "book" -> {
        int n = below(300);
        yield new int[] {below(9) == 0 ? -1 : mark, n, below(5) > 0 ? o.dark(mark, n) : below(31)};
      }
      case "act" -> new int[] {mark, below(3), below(3) == 0 ? edge() : below(100) - 50};
      case "trace" -> new int[] {below(8)};
      case "as" -> new int[] {mark, below(7)};
      case "count" -> new int[] {below(7)};
      default -> new int[0];
    };
    if (a.length > 0 && below(15) == 0) {
      a[below(a.length)] = edge();
    }
    return a;
  }

  private static String expression(int deep) {
    int what = below(deep > 0 ? 7 : 3);
    switch (what) {
      case 3: return "!" + one(deep - 1);
      case 4: return "(" + expression(deep - 1) + ")";
      case 5: return one(deep - 1) + "&" + one(deep - 1);
      case 6: return one(deep - 1) + "|" + one(deep - 1);
      default: return test();
    }
  }

  private static String one(int deep) {
    int what = below(deep > 0 ? 4 : 2);
    return what == 2 ? "!" + one(deep - 1) : what == 3 ? "(" + expression(deep - 1) + ")" : test();
  }

  private static String test() {
    return "" + "mkdxtv".charAt(below(6)) + "<=>".charAt(below(3)) + (below(8) == 0 ? below(100) : below(9));
  }

  private static String text() {
    StringBuilder tape = new StringBuilder();
    int clauses = oneOf(1, below(6) == 0 ? 11 : 5);
    for (int c = 0; c < clauses; c++) {
      tape.append(c > 0 ? ";" : "");
      int word = below(6);
      if (word == 0) {
        tape.append("wear ").append(below(30));
      } else if (word == 1) {
        tape.append("mend ").append(below(100));
      } else {
        tape.append(word == 2 ? "sure " : "risk ").append(below(60)).append(' ').append(expression(oneOf(0, 3)));
      }
    }
    if (below(4) == 0 && tape.length() > 0) {
      tape.setCharAt(below(tape.length()), "wear mndskxtv<=>()!&|;05".charAt(below(24)));
    }
    if (below(6) == 0) {
      tape.setLength(below(tape.length() + 1));
    }
    return tape.length() > 100 ? tape.substring(0, 100) : tape.toString();
  }

  private static Method method(Class<?> of, String name) {
    for (Method m : of.getDeclaredMethods()) {
      if (m.getName().equals(name) && java.lang.reflect.Modifier.isPublic(m.getModifiers())) {
        return m;
      }
    }
    throw new IllegalStateException("no public method " + name);
  }

  private static long answer(Object of, String name, int[] a) throws IllegalAccessException {
    Object[] boxed = new Object[a.length];
    for (int i = 0; i < a.length; i++) {
      boxed[i] = a[i];
    }
    try {
      return ((Number) method(of.getClass(), name).invoke(of, boxed)).longValue();
    } catch (InvocationTargetException e) {
      throw new IllegalStateException(name + java.util.Arrays.toString(a), e.getCause());
    }
  }

  private static boolean compare(int run, List<String> calls, MirrorPlate x, Oracle o, String name, int... a)
      throws IllegalAccessException {
    long want = answer(o, name, a);
    long got = answer(x, name, a);
    calls.add(name + java.util.Arrays.toString(a) + " -> " + want);
    if (name.equals("undo") && want >= 0) {
      undone++;
    }
    Check.due("run " + run + ", call " + calls.size() + " " + name + java.util.Arrays.toString(a), got, want);
    if (got != want) {
      calls.forEach(System.out::println);
    }
    return got == want;
  }

  private static boolean run(int run) throws IllegalAccessException {
    MirrorPlate x = new MirrorPlate();
    Oracle o = new Oracle();
    List<String> calls = new ArrayList<>();
    seed = run * 7919L + 13;
    boolean marksFirst = below(3) > 0;
    while (calls.size() < CALLS) {
      String name = marksFirst && o.count(0) < 5 ? "mark" : NAMES[below(NAMES.length)];
      if (name.equals("tape") && below(3) == 0) {
        String text = text();
        for (int i = 0; i < text.length(); i++) {
          if (!compare(run, calls, x, o, "feed", text.charAt(i))) {
            return false;
          }
        }
        name = "plate";
      }
      if (name.equals("plate") && below(5) > 0 && o.count(5) == 0 || name.equals("tape")) {
        continue;
      }
      if ((name.equals("image") || name.equals("undo")) && below(3) > 0) {
        continue;
      }
      if (!compare(run, calls, x, o, name, arguments(name, o))) {
        return false;
      }
    }
    return true;
  }

  /** Many tapes, good and spoilt ones, each on a new object. */
  private static void tapes() {
    int plates = 0;
    seed = 4711;
    for (int i = 0; i < 20000; i++) {
      String text = text();
      MirrorPlate x = new MirrorPlate();
      int fault = Oracle.fault(text);
      int want = fault < 0 ? 0 : -10 - fault;
      Check.due("plate of " + text, Check.plate(x, text), want);
      plates += want == 0 ? 1 : 0;
    }
    Check.holds("many of the tapes are plates, many are not: " + plates, plates > 5000 && plates < 17000);
  }

  public static void main(String[] args) throws IllegalAccessException {
    tapes();
    for (int run = 0; run < RUNS; run++) {
      if (!run(run)) {
        break;
      }
    }
    Check.holds("runs are undone now and then", undone > 100);
    Check.finish();
  }
}
