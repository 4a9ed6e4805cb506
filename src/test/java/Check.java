/** Counts answers that are due; every test program of the project ends with finish(). */
final class Check {
  private static int passed = 0;
  private static int failed = 0;
  private static String test = "";

  private Check() {}

  /** What is looked at from now on belongs to this test. */
  static void test(String name) {
    test = name.isEmpty() ? "" : name + ": ";
  }

  /** How often something was looked at so far. */
  static int looked() {
    return passed + failed;
  }

  static void due(String call, long got, long want) {
    if (got == want) {
      passed++;
    } else {
      failed++;
      System.out.println(test + call + " answered " + got + ", due is " + want);
    }
  }

  static void holds(String what, boolean so) {
    due(what, so ? 1 : 0, 1);
  }

  /** Feeds a text, sign by sign, and answers what plate() then answers. */
  static int plate(MirrorPlate x, String text) {
    feed(x, text);
    return x.plate();
  }

  static void feed(MirrorPlate x, String text) {
    for (int i = 0; i < text.length(); i++) {
      x.feed(text.charAt(i));
    }
  }

  /** What an object answers to all that can be told and counted: to see that a call changed nothing. */
  static String state(MirrorPlate x) {
    StringBuilder all = new StringBuilder();
    for (int what = 0; what <= 4; what++) {
      all.append(x.told(what)).append(' ');
    }
    for (int what = 0; what <= 6; what++) {
      all.append(x.count(what)).append(' ');
    }
    for (int mark = 0; mark < x.count(0); mark++) {
      for (int what = 0; what <= 10; what++) {
        all.append(x.of(mark, what)).append(' ');
      }
      for (int n = 0; n < 4; n++) {
        all.append(x.dark(mark, n)).append(' ');
      }
    }
    for (int what = 0; what <= 2; what++) {
      all.append(x.done(what)).append(' ');
    }
    return all.append(x.ran(0)).append(' ').append(x.ran(1)).append(' ').append(x.looked()).toString();
  }

  static void finish() {
    System.out.println(passed + " passed, " + failed + " failed");
    if (failed != 0 || passed == 0) {
      System.exit(1);
    }
  }
}
