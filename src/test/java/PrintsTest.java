/** Promises 14 to 16: GOOD, FIRST, FADED. */
public final class PrintsTest {
  private static final int NONE = MirrorPlate.NONE, BAD = MirrorPlate.BAD;

  private static void cutAll(MirrorPlate x) {
    for (int i = 0; i < x.count(0); i++) {
      x.cut(i, 99);
    }
  }

  private static void rowOf(MirrorPlate x, int mark, int a, int b, int c, int d) {
    x.row(mark, 0, a);
    x.row(mark, 1, b);
    x.row(mark, 2, c);
    x.row(mark, 3, d);
  }

  private static void good() {
    MirrorPlate x = new MirrorPlate();
    x.mark(0, 0, 0, 5);
    x.mark(1, 0, 0, 5);
    x.mark(2, 0, 0, 5);
    Check.due("good(0), not cut", x.good(0), -5);
    Check.due("good(-1), none is cut", x.good(-1), -5);
    x.cut(1, 99);
    x.cut(2, 99);
    Check.due("good(0)", x.good(0), -5);
    Check.due("good(1)", x.good(1), 119);
    Check.due("good(2)", x.good(2), 199);
    Check.due("good(-1): of those that print now", x.good(-1), 119);
    x.cut(0, 99);
    Check.due("good(0), cut", x.good(0), 99);
    Check.due("good(-1), all", x.good(-1), 99);
    x.print(99);
    Check.due("good(0) behind 99", x.good(0), 0);
    Check.due("good(1) behind 99", x.good(1), 20);
    Check.due("good(-1) behind 99", x.good(-1), 0);
    x.print(1);
    Check.due("good(0) behind 100", x.good(0), -5);
    Check.due("good(-1) behind 100", x.good(-1), 19);
    x.print(100);
    Check.due("good(-1), none prints", x.good(-1), -5);
    Check.due("good(3)", x.good(3), NONE);
    Check.due("good(-2)", x.good(-2), NONE);
    Check.due("good(40)", x.good(40), NONE);
    Check.due("good(least)", x.good(Integer.MIN_VALUE), NONE);
  }

  private static void goodIsTheMost() {
    MirrorPlate x = new MirrorPlate();
    x.mark(6, 0, 0, 1);
    x.mark(6, 0, 0, 1);
    rowOf(x, 0, 9, 9, 0, 0);
    rowOf(x, 1, 9, 0, 9, 0);
    cutAll(x);
    Check.due("good(0): told ones fade and come back", x.good(0), 197);
    Check.due("good(1)", x.good(1), 198);
    Check.due("good(-1): both at once", x.good(-1), 196);
    Check.due("first(): of several the lesser", x.first(), 1);
    Check.due("faded(20)", x.faded(20), 0);
    Check.due("faded(21)", x.faded(21), 2);
    Check.due("faded(22)", x.faded(22), 1);
    Check.due("faded(23)", x.faded(23), 3);
    Check.due("faded(24)", x.faded(24), 0);
    Check.due("faded(200)", x.faded(200), 3);
    MirrorPlate y = new MirrorPlate();
    y.mark(2, 0, 0, 9);
    Check.plate(y, "wear 99");
    cutAll(y);
    Check.due("good(0) is 999 at most", y.good(0), 999);
    Check.due("good(-1) is 999 at most", y.good(-1), 999);
    Check.due("first(): none within 999", y.first(), -5);
    Check.due("faded(999)", y.faded(999), 0);
    MirrorPlate z = new MirrorPlate();
    z.mark(2, 0, 0, 5);
    Check.plate(z, "wear 99");
    cutAll(z);
    z.print(0);
    Check.due("the last print of WEAR 99 and DARK 10", z.good(0), 989);
    Check.due("first() at 990", z.first(), 0);
    z.print(989);
    Check.due("good(0) behind 989", z.good(0), 0);
  }

  private static void firstAt999() {
    MirrorPlate x = new MirrorPlate();
    x.mark(0, 0, 0, 2);
    x.mark(6, 0, 0, 9);
    Check.plate(x, "wear 99");
    x.cut(1, 99);
    rowOf(x, 1, 2, 2, 2, 2);
    x.print(89);
    Check.due("dark(1, 999): WORN is 1088", x.dark(1, 999), 1);
    Check.due("first(): at 1000", x.first(), -5);
    Check.due("good(1)", x.good(1), 999);
    Check.due("faded(999)", x.faded(999), 0);
    x.print(1);
    Check.due("dark(1, 999): WORN is 1089", x.dark(1, 999), 0);
    Check.due("first(): at 999", x.first(), 1);
    Check.due("good(1)", x.good(1), 998);
    Check.due("faded(999)", x.faded(999), 2);
    Check.due("faded(998)", x.faded(998), 0);
  }

  private static void first() {
    MirrorPlate x = new MirrorPlate();
    Check.due("first(): no marks", x.first(), -5);
    x.mark(2, 0, 0, 5);
    x.mark(0, 0, 0, 5);
    x.mark(0, 0, 0, 5);
    x.mark(0, 0, 0, 1);
    Check.due("first(): none is cut", x.first(), -5);
    x.cut(0, 99);
    Check.due("first(): only one prints", x.first(), 0);
    x.cut(2, 99);
    Check.due("first(): the sooner one", x.first(), 2);
    x.cut(1, 99);
    Check.due("first(): of several the lesser number", x.first(), 1);
    x.print(100);
    Check.due("first(): of those that print now", x.first(), 0);
    x.print(100);
    Check.due("first(): none prints", x.first(), -5);
  }

  /** By WEAR 1 each print shows. */
  private static void atOnce() {
    MirrorPlate x = new MirrorPlate();
    x.mark(0, 0, 0, 2);
    x.mark(0, 0, 0, 1);
    Check.plate(x, "wear 1");
    cutAll(x);
    Check.due("good(0): 1", x.good(0), 1);
    Check.due("good(1): 0", x.good(1), 0);
    Check.due("good(-1): 0", x.good(-1), 0);
    Check.due("first(): behind 1", x.first(), 1);
    Check.due("faded(0)", x.faded(0), 0);
    Check.due("faded(1)", x.faded(1), 2);
    Check.due("faded(2)", x.faded(2), 3);
    Check.due("worth(1): 1 becomes 2", x.worth(1), 1);
    Check.due("worth(0): the other holds it back", x.worth(0), 0);
    x.print(1);
    Check.due("good(0): 0", x.good(0), 0);
    Check.due("good(1): gone", x.good(1), -5);
    Check.due("first(): of one", x.first(), 0);
    Check.due("faded(1): it prints no more", x.faded(1), 1);
    Check.due("print(0)", x.print(0), 1);
  }

  private static void faded() {
    MirrorPlate x = new MirrorPlate();
    x.mark(0, 0, 0, 1);
    x.mark(0, 0, 0, 2);
    x.mark(0, 0, 0, 9);
    x.mark(0, 0, 0, 2);
    cutAll(x);
    x.mark(0, 0, 0, 1);
    Check.due("faded(-1)", x.faded(-1), BAD);
    Check.due("faded(1000)", x.faded(1000), BAD);
    Check.due("faded(0)", x.faded(0), 0);
    Check.due("faded(19)", x.faded(19), 0);
    Check.due("faded(20)", x.faded(20), 1);
    Check.due("faded(40)", x.faded(40), 11);
    Check.due("faded(999)", x.faded(999), 15);
    x.print(25);
    Check.due("faded(0) of one that does not print now", x.faded(0), 0);
    Check.due("faded(15)", x.faded(15), 10);
    Check.due("it changes nothing", x.of(1, 6), 25);
  }

  public static void main(String[] args) {
    good();
    goodIsTheMost();
    firstAt999();
    first();
    atOnce();
    faded();
    Check.finish();
  }
}
