/** Promises 30 to 39: what is SEEN, HAND, ERRS, ODDS, MEAN, the PLAN, BOOK. */
public final class SeenTest {
  private static final int NONE = MirrorPlate.NONE, BAD = MirrorPlate.BAD, FULL = MirrorPlate.FULL;
  private static final long NO = MirrorPlate.NO;

  /** MARK, LINE, LETTER of depth 5, cut: dark 5, 6, 10; and a mark that is not cut. */
  private static MirrorPlate three() {
    MirrorPlate x = new MirrorPlate();
    x.mark(0, 0, 0, 5);
    x.mark(1, 0, 0, 5);
    x.mark(2, 0, 0, 5);
    x.mark(0, 0, 0, 4);
    x.cut(0, 99);
    x.cut(1, 99);
    x.cut(2, 99);
    return x;
  }

  private static void see() {
    MirrorPlate x = three();
    Check.due("see(4, 0)", x.see(4, 0), NONE);
    Check.due("see(-2, 0)", x.see(-2, 0), NONE);
    Check.due("see(4, 31): NONE ahead of BAD", x.see(4, 31), NONE);
    Check.due("see(0, -1)", x.see(0, -1), BAD);
    Check.due("see(0, 31)", x.see(0, 31), BAD);
    for (int i = 1; i <= 6; i++) {
      Check.due("see, the " + i + "th", x.see(i % 4, i == 1 ? 0 : 30), i);
    }
    Check.due("see, the seventh", x.see(0, 0), FULL);
    Check.due("see(0, 31): BAD ahead of FULL", x.see(0, 31), BAD);
    Check.due("see(9, 0): NONE ahead of FULL", x.see(9, 0), NONE);
    Check.due("count(2)", x.count(2), 6);
    Check.due("see(-1, 99)", x.see(-1, 99), 0);
    Check.due("count(2) then", x.count(2), 0);
    Check.due("see(0, 5)", x.see(0, 5), 1);
  }

  private static void ranIs(String who, MirrorPlate x, int many, int least) {
    Check.due(who + ": ran(0)", x.ran(0), many);
    Check.due(who + ": ran(1)", x.ran(1), least);
  }

  private static void ran() {
    MirrorPlate x = three();
    Check.due("ran(-1)", x.ran(-1), NONE);
    Check.due("ran(2)", x.ran(2), NONE);
    ranIs("nothing seen", x, 1000, 0);
    x.see(0, 5);
    ranIs("as it is now", x, 20, 0);
    x.see(-1, 0);
    x.see(0, 4);
    ranIs("one fainter", x, 20, 20);
    x.see(1, 5);
    ranIs("the other too", x, 20, 20);
    x.see(2, 8);
    ranIs("not all at once", x, 0, -5);
    x.see(-1, 0);
    x.see(0, 0);
    ranIs("gone", x, 900, 100);
    x.see(3, 0);
    ranIs("one not cut is 0", x, 900, 100);
    x.see(3, 1);
    ranIs("and never 1", x, 0, -5);
    x.see(-1, 0);
    x.see(0, 0);
    x.print(30);
    ranIs("from WORN 30 on", x, 930, 70);
    MirrorPlate told = new MirrorPlate();
    told.mark(6, 0, 0, 9);
    told.row(0, 3, 7);
    Check.plate(told, "wear 99");
    told.cut(0, 99);
    told.see(0, 6);
    // 9 less 3 from 297 to 395, but for the 25 that are 3 modulo 4; of these 9 and 7 less 10 at 991, 995, 999
    ranIs("a told one", told, 99 - 25 + 3, 297);
  }

  private static void hand() {
    MirrorPlate x = new MirrorPlate();
    Check.due("hand(0): no marks", x.hand(0), 0);
    x.mark(0, 0, 0, 9);
    x.mark(5, 0, 0, 9);
    x.mark(0, 0, 0, 9);
    Check.due("hand(0): no RISK", x.hand(0), 0);
    Check.plate(x, "risk 30 m=0;risk 50 m=1;risk 99 m=2");
    Check.due("hand(0)", x.hand(0), 7);
    Check.due("hand(29)", x.hand(29), 7);
    Check.due("hand(30)", x.hand(30), 6);
    Check.due("hand(49)", x.hand(49), 6);
    Check.due("hand(50)", x.hand(50), 4);
    Check.due("hand(98)", x.hand(98), 4);
    Check.due("hand(99)", x.hand(99), 0);
    Check.due("hand(-1)", x.hand(-1), BAD);
    Check.due("hand(100)", x.hand(100), BAD);
    x.cut(2, 99);
    Check.due("hand(31): TIRED 13 is 2 more", x.hand(31), 3);
    Check.due("hand(32): of those not cut", x.hand(32), 2);
  }

  private static void errs() {
    MirrorPlate x = new MirrorPlate();
    Check.due("errs(): no marks", x.errs(), 0);
    for (int i = 0; i < 8; i++) {
      x.mark(0, 0, 0, 1);
    }
    Check.due("errs(): none is cut", x.errs(), 0);
    Check.plate(x, "risk 99 d>0");
    x.cut(0, 99);
    Check.due("errs(): none has a flaw", x.errs(), 0);
    x.cut(1, 2);
    Check.due("errs(): 3", x.errs(), 3);
    x.cut(2, 1);
    Check.due("errs(): of several the least", x.errs(), 2);
    x.cut(3, 0);
    Check.due("errs(): of three the least", x.errs(), 1);
    x.cut(4, 5);
    Check.due("errs(): two of 3", x.errs(), 3);
    x.cut(5, 4);
    Check.due("errs(): two of 2, two of 3", x.errs(), 2);
    x.mend(2);
    Check.due("errs(): one is mended", x.errs(), 3);
    MirrorPlate one = new MirrorPlate();
    Check.plate(one, "risk 99 d>0");
    one.mark(0, 0, 0, 1);
    one.cut(0, 1);
    Check.due("errs(): the first mark's", one.errs(), 2);
  }

  private static void fraction(String who, long above, long below, long wantAbove, long wantBelow) {
    Check.due(who + " above", above, wantAbove);
    Check.due(who + " below", below, wantBelow);
  }

  private static void odds() {
    MirrorPlate x = three();
    fraction("odds(6, 0)", x.odds(6, 0, 0), x.odds(6, 0, 1), 2, 3);
    fraction("odds(7, 0)", x.odds(7, 0, 0), x.odds(7, 0, 1), 1, 3);
    fraction("odds(0, 0)", x.odds(0, 0, 0), x.odds(0, 0, 1), 1, 1);
    fraction("odds(0, 999)", x.odds(0, 999, 0), x.odds(0, 999, 1), 1, 1);
    fraction("odds(1, 999)", x.odds(1, 999, 0), x.odds(1, 999, 1), 0, 1);
    fraction("odds(5, 20)", x.odds(5, 20, 0), x.odds(5, 20, 1), 2, 3);
    fraction("odds(30, 0)", x.odds(30, 0, 0), x.odds(30, 0, 1), 0, 1);
    x.cut(3, 99);
    fraction("odds(6, 0) of four", x.odds(6, 0, 0), x.odds(6, 0, 1), 1, 2);
    Check.due("odds(-1, 0, 0)", x.odds(-1, 0, 0), NO);
    Check.due("odds(31, 0, 0)", x.odds(31, 0, 0), NO);
    Check.due("odds(0, -1, 0)", x.odds(0, -1, 0), NO);
    Check.due("odds(0, 1000, 0)", x.odds(0, 1000, 0), NO);
    Check.due("odds(0, 0, -1)", x.odds(0, 0, -1), NO);
    Check.due("odds(0, 0, 2)", x.odds(0, 0, 2), NO);
    MirrorPlate none = new MirrorPlate();
    none.mark(0, 0, 0, 1);
    Check.due("odds: none is cut", none.odds(0, 0, 0), NO);
    Check.due("odds: none is cut, below", none.odds(0, 0, 1), NO);
  }

  private static void mean() {
    MirrorPlate x = three();
    fraction("mean(0)", x.mean(0, 0), x.mean(0, 1), 7, 1);
    fraction("mean(20)", x.mean(20, 0), x.mean(20, 1), 6, 1);
    fraction("mean(100)", x.mean(100, 0), x.mean(100, 1), 2, 1);
    fraction("mean(120)", x.mean(120, 0), x.mean(120, 1), 4, 3);
    fraction("mean(999)", x.mean(999, 0), x.mean(999, 1), 0, 1);
    x.cut(3, 99);
    fraction("mean(0) of four", x.mean(0, 0), x.mean(0, 1), 25, 4);
    fraction("mean(80)", x.mean(80, 0), x.mean(80, 1), 1 + 2 + 6, 4);
    Check.due("mean(-1, 0)", x.mean(-1, 0), NO);
    Check.due("mean(1000, 0)", x.mean(1000, 0), NO);
    Check.due("mean(0, -1)", x.mean(0, -1), NO);
    Check.due("mean(0, 2)", x.mean(0, 2), NO);
    Check.due("mean: none is cut", new MirrorPlate().mean(0, 0), NO);
    Check.due("mean: none is cut, below", new MirrorPlate().mean(0, 1), NO);
  }

  private static void plan() {
    MirrorPlate x = new MirrorPlate();
    Check.due("plan(0, 0): no such mark", x.plan(0, 0), NONE);
    Check.due("plan(1, 0): no such mark", x.plan(1, 0), NONE);
    Check.due("plan(2, 0): no such mark", x.plan(2, 0), NONE);
    Check.due("plan(3, 0): the mark is not looked at", x.plan(3, 0), 1);
    Check.due("plan(4, -9): the mark is not looked at", x.plan(4, -9), 2);
    Check.due("plan(5, 0)", x.plan(5, 0), NONE);
    Check.due("plan(-2, 0)", x.plan(-2, 0), NONE);
    x.mark(0, 0, 0, 5);
    Check.due("plan(0, 0)", x.plan(0, 0), 3);
    Check.due("plan(1, 0)", x.plan(1, 0), 4);
    Check.due("plan(2, 0)", x.plan(2, 0), 5);
    Check.due("plan(0, -1)", x.plan(0, -1), NONE);
    x.plan(4, 1);
    x.plan(4, 1);
    Check.due("plan, the eighth", x.plan(4, 1), 8);
    Check.due("plan, the ninth", x.plan(4, 1), FULL);
    Check.due("NONE ahead of FULL", x.plan(5, 1), NONE);
    Check.due("NONE ahead of FULL, mark", x.plan(0, 1), NONE);
    Check.due("count(3)", x.count(3), 8);
    Check.due("plan(-1, 77)", x.plan(-1, 77), 0);
    Check.due("count(3) then", x.count(3), 0);
  }

  private static void doneIs(String who, MirrorPlate x, int minutes, int tired, int many) {
    String state = Check.state(x);
    Check.due(who + ": done(0)", x.done(0), minutes);
    Check.due(who + ": done(1)", x.done(1), tired);
    Check.due(who + ": done(2)", x.done(2), many);
    Check.holds(who + ": it changes nothing", Check.state(x).equals(state));
  }

  private static void done() {
    MirrorPlate x = new MirrorPlate();
    Check.due("done(-1)", x.done(-1), NONE);
    Check.due("done(3)", x.done(3), NONE);
    doneIs("no plan", x, 0, 0, 0);
    x.mark(0, 0, 0, 4);
    x.mark(0, 0, 0, 1);
    x.plan(0, 0);
    doneIs("cut", x, 12, 6, 1);
    x.plan(2, 0);
    doneIs("gone over", x, 18, 9, 1);
    x.plan(1, 0);
    doneIs("mended", x, 26, 14, 1);
    x.plan(0, 0);
    doneIs("cut already", x, 26, 14, 1);
    x.plan(2, 1);
    doneIs("not cut: not gone over", x, 26, 14, 1);
    x.plan(3, 1);
    doneIs("rested", x, 36, 0, 1);
    x.plan(4, 0);
    doneIs("50 prints: 5 less 2 less 1", x, 36, 0, 1);
    x.plan(4, 0);
    doneIs("100 prints: 5 less 5 less 1", x, 36, 0, 0);
    x.cut(0, 99);
    doneIs("it is cut already", x, 6 + 8 + 10, 0, 0);
  }

  private static void doneByItsOrder() {
    MirrorPlate x = new MirrorPlate();
    x.mark(0, 0, 0, 2);
    x.mark(4, 9, 0, 9);
    Check.plate(x, "mend 30");
    x.plan(1, 0);
    x.plan(2, 0);
    doneIs("neither is cut", x, 0, 0, 0);
    x.plan(4, 0);
    x.plan(0, 0);
    doneIs("printed, then cut", x, 6, 3, 1);
    x.plan(4, 0);
    doneIs("printed: 2 less 2", x, 6, 3, 0);
    x.plan(1, 0);
    doneIs("mended: 2 less 1", x, 36, 8, 1);
    x.plan(0, 1);
    doneIs("the other is cut", x, 216, 98, 2);
    x.plan(0, 1);
    doneIs("once alone", x, 216, 98, 2);
    x.cut(1, 99);
    x.rest(60);
    doneIs("from how all is: TIRED 0", x, 36, 8, 2);
    x.plan(-1, 0);
    doneIs("no plan", x, 0, 0, 1);
  }

  private static void doneByNumbersOfTheDocument() {
    MirrorPlate x = new MirrorPlate();
    x.mark(0, 0, 0, 2);
    Check.plate(x, "risk 99 d>0");
    x.plan(0, 0);
    doneIs("the DRAW is 99: not too faint", x, 6, 3, 1);
    x.cut(0, 99);
    x.plan(-1, 0);
    x.plan(4, 0);
    Check.plate(x, "wear 25");
    doneIs("50 PRINTS, no less", x, 0, 3, 0);
    Check.plate(x, "wear 26");
    doneIs("50 PRINTS by WEAR 26", x, 0, 3, 1);
    x.over(0);
    Check.plate(x, "wear 17");
    doneIs("50 PRINTS, no more", x, 0, 6, 1);
    Check.plate(x, "wear 1");
    x.plan(-1, 0);
    x.print(2);
    doneIs("DARK then, not behind one more", x, 0, 6, 1);
    x.print(1);
    doneIs("none then", x, 0, 6, 0);
  }

  private static void doneBeyondTheLimits() {
    MirrorPlate x = new MirrorPlate();
    x.mark(2, 0, 0, 9);
    x.cut(0, 99);
    for (int i = 0; i < 9; i++) {
      x.mend(0);
    }
    Check.due("MENDED is 9", x.of(0, 7), 9);
    x.print(999);
    x.plan(1, 0);
    doneIs("one of 9 is mended in thought", x, 8, 13 + 45 + 5, 1);
    for (int i = 0; i < 7; i++) {
      x.plan(1, 0);
    }
    doneIs("TIRED is 99 at most", x, 64, 98, 1);
    Check.due("MENDED stays", x.of(0, 7), 9);
    x.over(0);
    doneIs("and with 3 more", x, 64, 99, 1);
    MirrorPlate y = new MirrorPlate();
    y.mark(2, 0, 0, 5);
    y.cut(0, 99);
    for (int i = 0; i < 9; i++) {
      y.mend(0);
    }
    y.print(20);
    doneIs("10 less 9 less 1", y, 0, 52, 0);
    y.plan(1, 0);
    doneIs("MENDED is 9 at most: 10 less 9", y, 8, 57, 1);
  }

  private static void book() {
    MirrorPlate x = three();
    Check.due("looked(): no rows", x.looked(), -5);
    Check.due("book(4, 0, 0)", x.book(4, 0, 0), NONE);
    Check.due("book(-2, 0, 0)", x.book(-2, 0, 0), NONE);
    Check.due("book(4, -1, 31): NONE ahead of BAD", x.book(4, -1, 31), NONE);
    Check.due("book(0, -1, 0)", x.book(0, -1, 0), BAD);
    Check.due("book(0, 1000, 0)", x.book(0, 1000, 0), BAD);
    Check.due("book(0, 0, -1)", x.book(0, 0, -1), BAD);
    Check.due("book(0, 0, 31)", x.book(0, 0, 31), BAD);
    Check.due("book(0, 0, 5)", x.book(0, 0, 5), 1);
    Check.due("book(1, 999, 0)", x.book(1, 999, 0), 2);
    Check.due("book(2, 20, 9)", x.book(2, 20, 9), 3);
    Check.due("book(3, 5, 0)", x.book(3, 5, 0), 4);
    Check.due("looked(): all are so", x.looked(), -5);
    Check.due("book(0, 20, 5)", x.book(0, 20, 5), 5);
    Check.due("looked(): the fifth is not", x.looked(), 4);
    x.book(0, 40, 5);
    Check.due("looked(): the first that is not so", x.looked(), 4);
    x.print(20);
    Check.due("looked(): from how all is now", x.looked(), 0);
    Check.due("book(0, 0, 30)", x.book(0, 0, 30), 7);
    Check.due("book, the eighth", x.book(0, 0, 30), 8);
    Check.due("book, the ninth", x.book(0, 0, 30), FULL);
    Check.due("BAD ahead of FULL", x.book(0, 0, 31), BAD);
    Check.due("NONE ahead of FULL", x.book(9, 0, 30), NONE);
    Check.due("count(4)", x.count(4), 8);
    Check.due("book(-1, 5000, 99)", x.book(-1, 5000, 99), 0);
    Check.due("count(4) then", x.count(4), 0);
    Check.due("looked() then", x.looked(), -5);
  }

  public static void main(String[] args) {
    see();
    ran();
    hand();
    errs();
    odds();
    mean();
    plan();
    done();
    doneByItsOrder();
    doneByNumbersOfTheDocument();
    doneBeyondTheLimits();
    book();
    Check.finish();
  }
}
