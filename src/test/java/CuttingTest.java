/** Promises 17 to 20: ORDER, RESTED, FLAWS, CLEAN. */
public final class CuttingTest {
  private static final int NONE = MirrorPlate.NONE;
  private static final long NO = MirrorPlate.NO;

  private static void orderIs(String who, MirrorPlate x, int sum, int... row) {
    Check.due(who + ": order(-1)", x.order(-1), sum);
    for (int k = 0; k <= 5; k++) {
      Check.due(who + ": order(" + k + ")", x.order(k), k < row.length ? row[k] : -5);
    }
  }

  private static void order() {
    MirrorPlate x = new MirrorPlate();
    orderIs("no marks", x, 0);
    Check.due("order(-2)", x.order(-2), NONE);
    Check.due("order(6)", x.order(6), NONE);
    x.mark(4, 9, 0, 9);
    orderIs("one", x, 0, 0);
    x.mark(0, 0, 0, 4);
    x.mark(1, 0, 0, 9);
    orderIs("what tires most goes last", x, 4, 1, 2, 0);
    x.cut(1, 99);
    orderIs("of those that are not cut, by TIRED 6", x, 1 + 3, 2, 0);
    x.cut(0, 99);
    x.cut(2, 99);
    orderIs("all are cut", x, 0);
    MirrorPlate same = new MirrorPlate();
    for (int i = 0; i < 6; i++) {
      same.mark(1, 0, 0, 1);
    }
    orderIs("of several the first as a row", same, 1, 0, 1, 2, 3, 4, 5);
    same.mark(1, 0, 0, 1);
    for (int k = -1; k <= 5; k++) {
      Check.due("seven: order(" + k + ")", same.order(k), -9);
    }
    Check.due("seven: order(6)", same.order(6), NONE);
    same.cut(3, 99);
    orderIs("six again", same, 2, 0, 1, 2, 4, 5, 6);
  }

  private static void orderByClauses() {
    MirrorPlate x = new MirrorPlate();
    x.mark(0, 0, 0, 9);
    x.mark(0, 0, 0, 9);
    x.mark(0, 0, 0, 9);
    Check.plate(x, "risk 50 m=0&t<1;risk 30 m=1&t>1;risk 20 m=2&t=1");
    orderIs("t is the one of that moment", x, 0 + 2 + 5, 1, 0, 2);
    MirrorPlate y = new MirrorPlate();
    y.mark(0, 0, 0, 9);
    y.mark(0, 0, 0, 9);
    Check.plate(y, "risk 10 m=0;sure 40 m=1&t=1;risk 40 m=1");
    orderIs("a sum, not the least first", y, 10 + 2, 0, 1);
  }

  private static void rested() {
    MirrorPlate x = new MirrorPlate();
    Check.due("rested(): no marks", x.rested(), -5);
    x.mark(0, 0, 0, 9);
    Check.due("rested(): nothing to gain", x.rested(), -5);
    x.mark(0, 0, 0, 9);
    x.mark(0, 0, 0, 9);
    Check.due("rested(): 0 2 5 becomes 0 0 2", x.rested(), 1);
    Check.due("it changes nothing", x.told(0) + x.told(2), 0);
    x.cut(0, 99);
    Check.due("rested(): 2 5 becomes 0 2 or 2 1", x.rested(), 1);
    x.cut(1, 99);
    Check.due("rested(): the last one", x.rested(), 2);
    x.cut(2, 99);
    Check.due("rested(): all are cut", x.rested(), -5);
  }

  private static void restedByClauses() {
    MirrorPlate x = new MirrorPlate();
    x.mark(4, 9, 0, 6);
    x.mark(1, 0, 0, 1);
    x.mark(1, 0, 0, 1);
    x.cut(0, 99);
    Check.due("TIRED", x.told(2), 60);
    Check.due("rested(): 12 12 becomes 8 8 or 12 8", x.rested(), 1);
    Check.plate(x, "sure 50 m=1");
    Check.due("rested(): 0 12 becomes 0 8 either way: the first", x.rested(), 1);
    Check.plate(x, "sure 50 m=1;sure 50 m=2");
    Check.due("rested(): not less than without", x.rested(), -5);
    Check.plate(x, "sure 50 m=1;risk 50 m=2&t<5");
    Check.due("rested(): a rest may be worse", x.rested(), -5);
    Check.plate(x, "risk 40 m=2&t=4;risk 9 m=1&t=4");
    Check.due("rested(): worse ahead of both", x.rested(), -5);
    Check.plate(x, "sure 50 m=2;risk 9 m=1&t=4");
    Check.due("rested(): five plates", x.rested(), -5);
    MirrorPlate y = new MirrorPlate();
    for (int i = 0; i < 8; i++) {
      y.mark(0, 0, 0, i < 7 ? 1 : 9);
    }
    y.cut(7, 99);
    Check.due("rested(): seven that are not cut", y.rested(), 0);
  }

  private static void fraction(String who, long above, long below, long wantAbove, long wantBelow) {
    Check.due(who + " above", above, wantAbove);
    Check.due(who + " below", below, wantBelow);
  }

  private static void flawsAndClean() {
    MirrorPlate x = new MirrorPlate();
    fraction("flaws of none", x.flaws(0), x.flaws(1), 0, 1);
    fraction("clean of none", x.clean(0), x.clean(1), 1, 1);
    x.mark(0, 0, 0, 9);
    fraction("flaws of one", x.flaws(0), x.flaws(1), 0, 1);
    x.mark(0, 0, 0, 9);
    fraction("flaws 0 2", x.flaws(0), x.flaws(1), 1, 50);
    fraction("clean 0 2", x.clean(0), x.clean(1), 49, 50);
    x.mark(0, 0, 0, 9);
    fraction("flaws 0 2 5", x.flaws(0), x.flaws(1), 7, 100);
    fraction("clean 0 2 5", x.clean(0), x.clean(1), 931, 1000);
    x.mark(0, 0, 0, 9);
    fraction("flaws 0 2 5 7", x.flaws(0), x.flaws(1), 7, 50);
    fraction("clean 0 2 5 7", x.clean(0), x.clean(1), 86583, 100000);
    x.mark(0, 0, 0, 9);
    fraction("flaws: the first 4 alone", x.flaws(0), x.flaws(1), 7, 50);
    fraction("clean: the first 4 alone", x.clean(0), x.clean(1), 86583, 100000);
    x.cut(1, 99);
    fraction("flaws 2 5 7 10, by TIRED 13", x.flaws(0), x.flaws(1), 6, 25);
    fraction("clean 2 5 7 10", x.clean(0), x.clean(1), 779247, 1000000);
    for (int part : new int[] {-1, 2, Integer.MIN_VALUE, Integer.MAX_VALUE}) {
      Check.due("flaws(" + part + ")", x.flaws(part), NO);
      Check.due("clean(" + part + ")", x.clean(part), NO);
    }
    MirrorPlate y = new MirrorPlate();
    for (int i = 0; i < 4; i++) {
      y.mark(1, 0, 0, 1);
    }
    Check.plate(y, "risk 99 d>0");
    fraction("flaws 99 99 99 99", y.flaws(0), y.flaws(1), 99, 25);
    fraction("clean 99 99 99 99", y.clean(0), y.clean(1), 1, 100000000);
    y.cut(0, 0);
    y.cut(1, 0);
    fraction("flaws of those that are not cut", y.flaws(0), y.flaws(1), 99, 50);
    Check.due("it changes nothing", y.told(2), 2);
  }

  public static void main(String[] args) {
    order();
    orderByClauses();
    rested();
    restedByClauses();
    flawsAndClean();
    Check.finish();
  }
}
