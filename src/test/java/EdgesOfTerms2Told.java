/** Edges of Terms, ==== 2: what is told by hand, odds, ACTS, THE IMAGE. */
final class EdgesOfTerms2Told {
  private static final int NONE = MirrorPlate.NONE, BAD = MirrorPlate.BAD, FULL = MirrorPlate.FULL;
  private static final long NO = MirrorPlate.NO;
  private static final int MOST = Integer.MAX_VALUE, LEAST = Integer.MIN_VALUE;

  private EdgesOfTerms2Told() {}

  private static void fraction(String who, long above, long below, long wantAbove, long wantBelow) {
    Check.due(who + " above", above, wantAbove);
    Check.due(who + " below", below, wantBelow);
  }

  private static void doneIs(MirrorPlate x, int minutes, int tired, int many) {
    Check.due("done(0)", x.done(0), minutes);
    Check.due("done(1)", x.done(1), tired);
    Check.due("done(2)", x.done(2), many);
  }

  private static void bodies(MirrorPlate x, int... want) {
    Check.due("count(6)", x.count(6), want.length);
    for (int i = 0; i < want.length; i++) {
      Check.due("trace(" + i + ")", x.trace(i), want[i]);
    }
    Check.due("trace(" + want.length + ")", x.trace(want.length), NONE);
  }

  @Says("a MARK and how DARK it is (0 .. 30)")
  static void t2_seenFrom0To30() {
    MirrorPlate x = Scene.at(1);
    Check.due("see(0, 0)", x.see(0, 0), 1);
    Check.due("see(0, 30)", x.see(0, 30), 2);
    for (int dark : Scene.outside(0, 30)) {
      Check.due("see(0, " + dark + ")", x.see(0, dark), BAD);
    }
    Check.due("count(2)", x.count(2), 2);
  }

  @Says("how DARK it is (0 .. 30); 6 at most")
  static void t2_sixAreSeen() {
    MirrorPlate x = Scene.at(1);
    for (int many = 1; many <= 6; many++) {
      Check.due("see, the " + many + "th", x.see(0, 0), many);
    }
    Check.due("see, the 7th", x.see(0, 1), FULL);
    Check.due("ran(0): the 7th is not looked at", x.ran(0), 1000);
    x.see(-1, 0);
    for (int many = 1; many <= 5; many++) {
      x.see(0, 0);
    }
    Check.due("see, the 6th", x.see(0, 1), 6);
    Check.due("ran(0): the 6th is looked at", x.ran(0), 0);
  }

  @Says("how many numbers n (0 .. 999) of further PRINTS")
  static void t2_ranFrom0To999() {
    MirrorPlate x = Scene.cut(0, "wear 50;risk 99 d>0", 5, 0, 0, 9);
    Check.due("ran(0), nothing seen", x.ran(0), 1000);
    Check.due("ran(1), nothing seen", x.ran(1), 0);
    x.print(1);
    x.see(0, 0);
    Check.due("ran(0), gone at 999", x.ran(0), 1);
    Check.due("ran(1), gone at 999", x.ran(1), 999);
    x.see(-1, 0);
    x.see(0, 20);
    Check.due("ran(0), 20 till 48", x.ran(0), 49);
    Check.due("ran(1), 20 till 48", x.ran(1), 0);
    x.print(48);
    Check.due("ran(0), 20 at 0 alone", x.ran(0), 1);
    Check.due("ran(1), 20 at 0 alone", x.ran(1), 0);
  }

  @Says("behind which all of SEEN is so; the least (-5: none)")
  static void t2_ranNever() {
    MirrorPlate x = Scene.cut(0, "wear 50;risk 99 d>0", 5, 0, 0, 9);
    x.see(0, 0);
    Check.due("ran(0), gone at 1000", x.ran(0), 0);
    Check.due("ran(1), gone at 1000", x.ran(1), -5);
    x.see(-1, 0);
    x.see(0, 5);
    Check.due("ran(1), 15 times 50", x.ran(1), 750);
    x.see(0, 6);
    Check.due("ran(0), not all at once", x.ran(0), 0);
    Check.due("ran(1), not all at once", x.ran(1), -5);
  }

  @Says("HAND of d (0 .. 99): those not CUT, as bits, that would have a FLAW")
  static void t2_handFrom0To99() {
    MirrorPlate x = Scene.of("risk 1 m=0;risk 99 m=2;risk 99 m=3", 0, 0, 0, 1, 0, 0, 0, 1, 0, 0, 0, 1, 0, 0, 0, 1);
    x.cut(3, 0);
    Check.due("hand(0): RISK 1, 0, 99, and one that is cut", x.hand(0), 1 + 4);
    Check.due("hand(1)", x.hand(1), 4);
    Check.due("hand(98)", x.hand(98), 4);
    Check.due("hand(99)", x.hand(99), 0);
    for (int d : Scene.outside(0, 99)) {
      Check.due("hand(" + d + ")", x.hand(d), BAD);
    }
    Check.due("hand(0), no marks", new MirrorPlate().hand(0), 0);
  }

  @Says("which FLAW (1 .. 3) most CUT ones have (of several the least;")
  static void t2_errsOfSeveral() {
    MirrorPlate x = Scene.of(Scene.ALWAYS, 0, 0, 0, 1, 0, 0, 0, 1, 0, 0, 0, 1, 0, 0, 0, 1);
    x.cut(0, 2);
    Check.due("one of 3", x.errs(), 3);
    x.cut(1, 1);
    Check.due("one of 2, one of 3", x.errs(), 2);
    x.cut(2, 0);
    Check.due("one of each", x.errs(), 1);
    x.cut(3, 2);
    Check.due("two of 3", x.errs(), 3);
  }

  @Says("0: none has any")
  static void t2_errsOfNone() {
    Check.due("errs(), no marks", new MirrorPlate().errs(), 0);
    Check.due("errs(), none is cut", Scene.full().errs(), 0);
    MirrorPlate x = Scene.cut(2, Scene.ALWAYS, 0, 0, 0, 1);
    x.mend(0);
    Check.due("errs(), mended", x.errs(), 0);
    Check.due("errs(), no RISK", Scene.cut(0, "", 0, 0, 0, 1).errs(), 0);
  }

  @Says("ODDS of q (0 .. 30)")
  static void t2_oddsOfQ() {
    MirrorPlate x = Scene.cut(0, Scene.ALWAYS, 5, 0, 0, 9);
    fraction("odds(0, 999)", x.odds(0, 999, 0), x.odds(0, 999, 1), 1, 1);
    fraction("odds(20, 0)", x.odds(20, 0, 0), x.odds(20, 0, 1), 1, 1);
    fraction("odds(21, 0)", x.odds(21, 0, 0), x.odds(21, 0, 1), 0, 1);
    fraction("odds(30, 0)", x.odds(30, 0, 0), x.odds(30, 0, 1), 0, 1);
    for (int q : Scene.outside(0, 30)) {
      Check.due("odds(" + q + ", 0, 0)", x.odds(q, 0, 0), NO);
    }
  }

  @Says("and n (0 .. 999): if it is any MARK that is CUT")
  static void t2_oddsOfN() {
    MirrorPlate x = Scene.cut(0, "wear 50;risk 99 d>0", 5, 0, 0, 9);
    fraction("odds(20, 0)", x.odds(20, 0, 0), x.odds(20, 0, 1), 1, 1);
    fraction("odds(1, 999)", x.odds(1, 999, 0), x.odds(1, 999, 1), 1, 1);
    fraction("odds(2, 999)", x.odds(2, 999, 0), x.odds(2, 999, 1), 0, 1);
    for (int n : Scene.outside(0, 999)) {
      Check.due("odds(0, " + n + ", 0)", x.odds(0, n, 0), NO);
    }
  }

  @Says("it is q DARK or more")
  static void t2_oddsOrMore() {
    MirrorPlate x = Scene.cut(99, "", 0, 0, 0, 4, 0, 0, 0, 5, 0, 0, 0, 6);
    fraction("odds(5, 0)", x.odds(5, 0, 0), x.odds(5, 0, 1), 2, 3);
    fraction("odds(5, 20)", x.odds(5, 20, 0), x.odds(5, 20, 1), 1, 3);
  }

  @Says("a fraction in lowest terms (NO: none is CUT)")
  static void t2_oddsOfNone() {
    MirrorPlate x = Scene.of("", 0, 0, 0, 9);
    Check.due("odds(0, 0, 0), none is cut", x.odds(0, 0, 0), NO);
    Check.due("odds(0, 0, 1), none is cut", x.odds(0, 0, 1), NO);
    Check.due("odds(0, 0, 0), no marks", new MirrorPlate().odds(0, 0, 0), NO);
    x.cut(0, 99);
    fraction("odds(9, 0), one is cut", x.odds(9, 0, 0), x.odds(9, 0, 1), 1, 1);
    fraction("odds(10, 0), one is cut", x.odds(10, 0, 0), x.odds(10, 0, 1), 0, 1);
  }

  @Says("a fraction in lowest terms (NO).")
  static void t2_meanOfNone() {
    MirrorPlate x = Scene.of("", 0, 0, 0, 4, 0, 0, 0, 2, 0, 0, 0, 2, 0, 0, 0, 2);
    Check.due("mean(0, 0), none is cut", x.mean(0, 0), NO);
    Check.due("mean(0, 1), none is cut", x.mean(0, 1), NO);
    Check.due("mean(0, 0), no marks", new MirrorPlate().mean(0, 0), NO);
    x.cut(0, 99);
    fraction("mean(0) of one", x.mean(0, 0), x.mean(0, 1), 4, 1);
    x.cut(1, 99);
    x.cut(2, 99);
    x.cut(3, 99);
    fraction("mean(0): 10 by 4", x.mean(0, 0), x.mean(0, 1), 5, 2);
    fraction("mean(60): 1 by 4", x.mean(60, 0), x.mean(60, 1), 1, 4);
    fraction("mean(999): 0 by 4", x.mean(999, 0), x.mean(999, 1), 0, 1);
  }

  @Says("a MARK is cut (by DRAW 99; passed over, if it is CUT)")
  static void t2_planOfOneThatIsCut() {
    MirrorPlate x = Scene.of(Scene.ALWAYS, 0, 0, 0, 2, 0, 0, 0, 2);
    x.plan(0, 0);
    doneIs(x, 6, 3, 1);
    x.plan(0, 0);
    doneIs(x, 6, 3, 1);
    x.cut(0, 2);
    doneIs(x, 0, 3, 0);
    x.plan(0, 1);
    doneIs(x, 6, 6, 1);
  }

  @Says("(1, 2 passed over, if it is not CUT)")
  static void t2_planOfOneThatIsNotCut() {
    MirrorPlate x = Scene.of("", 0, 0, 0, 2);
    x.plan(1, 0);
    x.plan(2, 0);
    doneIs(x, 0, 0, 0);
    x.plan(0, 0);
    x.plan(2, 0);
    doneIs(x, 6 + 3, 3 + 3, 1);
    x.plan(1, 0);
    doneIs(x, 6 + 3 + 8, 3 + 3 + 5, 1);
  }

  @Says("3 a REST of 10 MINUTES, 4 taking 50 PRINTS")
  static void t2_planOfRestAndPrints() {
    MirrorPlate x = Scene.cut(99, "wear 50", 0, 0, 0, 1);
    x.plan(4, 0);
    doneIs(x, 0, 1, 0);
    Check.plate(x, "wear 51");
    doneIs(x, 0, 1, 1);
    x.plan(4, 0);
    doneIs(x, 0, 1, 0);
    MirrorPlate y = Scene.tired(21, "");
    y.plan(3, 0);
    doneIs(y, 10, 1, 2);
    y.plan(3, 0);
    doneIs(y, 20, 0, 2);
    MirrorPlate told = Scene.cut(99, "wear 1", 6, 0, 0, 9);
    told.row(0, 3, 9);
    told.print(1);
    told.plan(4, 0);
    // WORN 51 is 3 modulo 4, but 18 less 51 is not above 0
    doneIs(told, 0, 15, 0);
    Check.plate(told, "wear 3");
    doneIs(told, 0, 15, 1);
  }

  @Says("(the MARK not looked at in 3, 4)")
  static void t2_planWithoutAMark() {
    MirrorPlate x = new MirrorPlate();
    int many = 0;
    for (int mark : new int[] {LEAST, -1, 0, MOST}) {
      Check.due("plan(3, " + mark + ")", x.plan(3, mark), ++many);
      Check.due("plan(4, " + mark + ")", x.plan(4, mark), ++many);
    }
    doneIs(x, 40, 0, 0);
  }

  @Says("not looked at in 3, 4); 8 at most")
  static void t2_eightRowsOfThePlan() {
    MirrorPlate x = Scene.of("", 0, 0, 0, 1);
    for (int many = 1; many <= 7; many++) {
      Check.due("plan, the " + many + "th", x.plan(3, 0), many);
    }
    Check.due("plan, the 8th", x.plan(0, 0), 8);
    Check.due("plan, the 9th", x.plan(3, 0), FULL);
    doneIs(x, 73, 1, 1);
  }

  @Says("DONE: behind all of it: MINUTES it takes")
  static void t2_doneByNoPlan() {
    doneIs(new MirrorPlate(), 0, 0, 0);
    MirrorPlate x = Scene.cut(99, "", 0, 0, 0, 9, 0, 0, 0, 1);
    doneIs(x, 0, 14, 2);
    x.print(20);
    doneIs(x, 0, 14, 1);
    doneIs(Scene.cut(99, "wear 1", 0, 0, 0, 1), 0, 1, 1);
  }

  @Says("BOOK told by hand: MARKS, PRINTS (0 .. 999) more")
  static void t2_bookOf0To999() {
    MirrorPlate x = Scene.cut(0, "wear 50;risk 99 d>0", 5, 0, 0, 9);
    Check.due("book(0, 0, 20)", x.book(0, 0, 20), 1);
    Check.due("book(0, 999, 1)", x.book(0, 999, 1), 2);
    Check.due("looked()", x.looked(), -5);
    for (int n : Scene.outside(0, 999)) {
      Check.due("book(0, " + n + ", 1)", x.book(0, n, 1), BAD);
    }
    Check.due("count(4)", x.count(4), 2);
  }

  @Says("more and DARK; 8 at most")
  static void t2_eightRowsOfTheBook() {
    MirrorPlate x = Scene.at(1);
    for (int many = 1; many <= 7; many++) {
      Check.due("book, the " + many + "th", x.book(0, 0, 0), many);
    }
    Check.due("book, the 8th", x.book(0, 0, 1), 8);
    Check.due("book, the 9th", x.book(0, 0, 0), FULL);
    Check.due("looked(): the 8th", x.looked(), 7);
  }

  @Says("LOOKED at: the first that is not so (-5: none)")
  static void t2_lookedAt() {
    MirrorPlate x = Scene.cut(99, "", 0, 0, 0, 5);
    Check.due("looked(), no rows", x.looked(), -5);
    x.book(0, 19, 5);
    Check.due("looked(), so", x.looked(), -5);
    x.book(0, 20, 5);
    x.book(0, 0, 0);
    Check.due("looked(), the second and the third are not", x.looked(), 1);
    x.print(1);
    Check.due("looked(), no row is", x.looked(), 0);
  }

  @Says("ACTS of a MARK with x (ints, wrapping)")
  static void t2_actsWrap() {
    MirrorPlate x = Scene.of("", 0, 0, 0, 1, 1, 9, 0, 1, 2, 0, 0, 1, 3, 9, 0, 1, 4, 9, 0, 1, 5, 1, 0, 1, 6, 9, 0, 1);
    Check.due("MARK cuts", x.act(0, 0, MOST), MOST);
    Check.due("MARK tells: doubled", x.act(0, 2, MOST), -2);
    Check.due("MARK tells: doubled", x.act(0, 2, LEAST), 0);
    Check.due("LINE cuts: 3 times, and 1", x.act(1, 0, MOST), MOST - 1);
    Check.due("LINE cuts: 3 times, and 1", x.act(1, 0, LEAST), LEAST + 1);
    Check.due("LETTER cuts: 2 more", x.act(2, 0, MOST), LEAST + 1);
    Check.due("LETTER prints: the least has no other sign", x.act(2, 1, LEAST - 2), LEAST);
    Check.due("NUMBER prints: 3 more, 9 less", x.act(3, 1, LEAST), MOST - 5);
    Check.due("HATCH tells: 1 less ahead of all", x.act(4, 2, LEAST), 2 * (3 * MOST + 4 - 9) + 10);
    Check.due("TURNED cuts: 5 more, ^ 5", x.act(5, 0, MOST), LEAST + 1);
    Check.due("TOLD prints: 6 more", x.act(6, 1, MOST), LEAST + 5);
  }

  @Says("the body of its KIND, or, if that has none, of the next KIND above that has one")
  static void t2_bodyOfAKindAbove() {
    MirrorPlate x = Scene.of("", 4, 0, 0, 1, 5, 0, 0, 1, 6, 0, 0, 1, 3, 0, 0, 1);
    x.act(0, 0, 1);
    bodies(x, 11, 1);
    x.act(0, 1, 1);
    bodies(x, 2, 11, 1);
    x.act(1, 1, 1);
    bodies(x, 21, 2, 51, 1);
    x.act(1, 2, 1);
    bodies(x, 3, 21, 2, 51, 1);
    x.act(2, 0, 1);
    bodies(x, 1);
    x.act(2, 2, 1);
    bodies(x, 31, 3, 61, 2, 1);
    x.act(3, 1, 1);
    bodies(x, 2, 1);
  }

  @Says("so from the KIND above the body's on")
  static void t2_superOfABody() {
    MirrorPlate x = Scene.of("", 0, 0, 0, 1, 4, 3, 0, 1, 5, 3, 0, 1, 6, 3, 0, 1);
    Check.due("HATCH tells: ((4 - 1) * 3 + 1 - 3) * 2, and 2 * 3 + 1", x.act(1, 2, 4), 14 + 7);
    bodies(x, 41, 3, 2, 11, 1, 11, 1);
    Check.due("LETTER prints: 8 + 1 - 3, its sign turned", Scene.of("", 0, 0, 0, 1, 2, 3, 0, 1).act(1, 1, 8), -6);
    Check.due("NUMBER tells: (8 + 1 - 3) * 2, ^ 7", Scene.of("", 0, 0, 0, 1, 3, 3, 0, 1).act(1, 2, 8), 12 ^ 7);
    Check.due("TURNED cuts: 4 + 2, ^ 2", x.act(2, 0, 4), 4);
    bodies(x, 51, 1);
    Check.due("TOLD prints: 4 + 3 - 3, + 3", x.act(3, 1, 4), 7);
    bodies(x, 61, 2, 1);
  }

  @Says("in the latest act(), as they began; the first 20 are kept")
  static void t2_traceOfTheLatest() {
    MirrorPlate x = Scene.of("", 4, 0, 0, 1, 0, 0, 0, 1);
    bodies(x);
    x.act(0, 2, 1);
    bodies(x, 41, 3, 2, 11, 1, 11, 1);
    Check.due("trace(19): no act has so many", x.trace(19), NONE);
    Check.due("trace(20)", x.trace(20), NONE);
    x.act(1, 0, 1);
    bodies(x, 1);
    x.act(0, 2, 1);
    bodies(x, 41, 3, 2, 11, 1, 11, 1);
  }

  @Says("all that there is (but THE IMAGE and THE TRACE)")
  static void t2_imageOfAll() {
    MirrorPlate x = Scene.busy();
    x.image();
    Check.plate(x, "wear 9;risk 9 d>0;");
    Check.plate(x, "9;mend 9");
    Check.plate(x, "mend 9");
    x.mark(4, 9, 99, 9);
    for (int mark = 0; mark <= 4; mark++) {
      x.row(mark, 0, 8);
      x.cut(mark, 0);
      x.mend(mark);
      x.over(mark);
      x.see(mark, mark);
      x.plan(0, mark);
      x.book(mark, mark, mark);
    }
    x.print(99);
    x.feed('x');
    x.act(4, 2, 7);
    Check.due("undo()", x.undo(), Scene.BUSY_MARKS);
    bodies(x, 41, 3, 2, 11, 1, 11, 1);
    MirrorPlate y = Scene.busy();
    y.image();
    y.mark(4, 9, 99, 9);
    y.act(4, 2, 7);
    y.undo();
    Check.holds("all is as the image", Scene.all(x).equals(Scene.all(y)));
  }

  @Says("how likely it is q DARK or more behind n PRINTS more: a fraction")
  static void t2_oddsOfAll() {
    MirrorPlate x = Scene.cut(99, "", 0, 0, 0, 9, 0, 0, 0, 9, 0, 0, 0, 9, 0, 0, 0, 9, 0, 0, 0, 1, 0, 0, 0, 1);
    x.mark(0, 0, 0, 9);
    fraction("odds(9, 0): 4 of 6", x.odds(9, 0, 0), x.odds(9, 0, 1), 2, 3);
    fraction("odds(0, 0): 6 of 6", x.odds(0, 0, 0), x.odds(0, 0, 1), 1, 1);
    fraction("odds(10, 0): 0 of 6", x.odds(10, 0, 0), x.odds(10, 0, 1), 0, 1);
  }
}
