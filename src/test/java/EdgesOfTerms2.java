/** Edges of Terms, ==== 2: GOOD, FIRST, FADED, cutting, places, proofs, mending. */
final class EdgesOfTerms2 {
  private EdgesOfTerms2() {}

  private static void fraction(String who, long above, long below, long wantAbove, long wantBelow) {
    Check.due(who + " above", above, wantAbove);
    Check.due(who + " below", below, wantBelow);
  }

  /** A TURNED one that is dark by 20, and by 1 less every 50 prints: the 1000th is the first not to print. */
  private static MirrorPlate goodFor999() {
    MirrorPlate x = Scene.cut(0, "wear 50;risk 99 d>0", 5, 0, 0, 9);
    Check.due("DARK", x.of(0, 10), 20);
    return x;
  }

  @Says("goes on from how all is (WORN beyond 9999, too)")
  static void t2_wornBeyond9999() {
    MirrorPlate x = Scene.cut(0, "wear 99;risk 99 d>0", 5, 0, 0, 9, 6, 0, 0, 9);
    x.row(1, 2, 9);
    for (int i = 0; i < 11; i++) {
      x.print(999);
    }
    Check.due("WORN", x.of(0, 6), 9999);
    for (int n : new int[] {0, 1, 3, 999}) {
      Check.due("dark(0, " + n + ")", x.dark(0, n), 0);
      Check.due("dark(1, " + n + ")", x.dark(1, n), 0);
    }
    x.see(0, 0);
    Check.due("ran(0)", x.ran(0), 1000);
    x.plan(4, 0);
    Check.due("done(2)", x.done(2), 0);
    Check.due("WORN still", x.of(0, 6), 9999);
    MirrorPlate y = Scene.cut(0, "wear 99;risk 99 d>0", 5, 0, 0, 9);
    y.print(999);
    Check.due("WORN 999 and 999 more: 20 less 20", y.dark(0, 999), 0);
    Check.due("WORN 999 and 980 more: 20 less 19", y.dark(0, 980), 1);
  }

  @Says("and changes nothing")
  static void t2_asking() {
    MirrorPlate x = Scene.busy();
    for (int mark = -1; mark <= Scene.BUSY_MARKS; mark++) {
      long answers = x.of(mark, 8) + x.dark(mark, 300) + x.good(mark) + x.mirror(mark) + x.beside(mark) + x.worth(mark) + x.as(mark, 3);
      Check.holds("answers of mark " + mark, answers > -5000);
    }
    for (int n = 0; n <= 9; n++) {
      x.faded(111 * n);
      x.order(n);
      x.flaws(n);
      x.clean(n);
      x.room(n);
      x.proof(n);
      x.ran(n);
      x.hand(11 * n);
      x.odds(n, 111 * n, 1);
      x.mean(111 * n, 0);
      x.done(n);
    }
    long answers = x.first() + x.rested() + x.crowd() + x.proofs() + x.mends() + x.best() + x.errs() + x.looked();
    Check.holds("answers", answers > -40);
    Check.holds("all is as it was", Scene.all(x).equals(Scene.all(Scene.busy())));
  }

  @Says("the most further PRINTS (0 .. 999) behind which it PRINTS")
  static void t2_goodFrom0To999() {
    MirrorPlate x = Scene.cut(99, "", 0, 0, 0, 1);
    Check.due("good(0)", x.good(0), 19);
    x.print(19);
    Check.due("good(0) of the last print", x.good(0), 0);
    MirrorPlate y = goodFor999();
    Check.due("good(0), gone at 1000", y.good(0), 999);
    y.print(1);
    Check.due("good(0), gone at 999", y.good(0), 998);
    Check.due("good(0), never gone", Scene.cut(99, "wear 99", 2, 0, 0, 9).good(0), 999);
    MirrorPlate told = Scene.cut(99, "wear 1", 6, 0, 0, 1);
    told.row(0, 0, 9);
    Check.due("dark(0, 1) of one that comes back", told.dark(0, 1), 0);
    Check.due("dark(0, 8) of one that comes back", told.dark(0, 8), 2);
    Check.due("good(0): the most", told.good(0), 8);
  }

  @Says("(-5: it does not now)")
  static void t2_goodOfOneThatDoesNotPrint() {
    MirrorPlate x = Scene.of("", 0, 0, 0, 1, 6, 0, 0, 1);
    Check.due("good(0), not cut", x.good(0), -5);
    x.cut(0, 99);
    x.print(20);
    Check.due("good(0), worn", x.good(0), -5);
    x.cut(1, 99);
    x.mend(1);
    x.row(1, 1, 9);
    Check.due("dark(1, 1)", x.dark(1, 1), 9);
    Check.due("good(1): it does not now, though it will", x.good(1), -5);
  }

  @Says("of the plate: behind which all that PRINT now do (-5: none does)")
  static void t2_goodOfThePlate() {
    MirrorPlate x = Scene.of("", 0, 0, 0, 1, 1, 0, 0, 1, 0, 0, 0, 9);
    Check.due("good(-1), none is cut", x.good(-1), -5);
    x.cut(0, 99);
    x.cut(1, 99);
    Check.due("good(-1)", x.good(-1), 19);
    x.print(20);
    Check.due("good(-1) of those that print now", x.good(-1), 19);
    x.print(19);
    Check.due("good(-1) of the last print", x.good(-1), 0);
    x.print(1);
    Check.due("good(-1), none prints", x.good(-1), -5);
    Check.due("good(-1), no marks", new MirrorPlate().good(-1), -5);
    Check.due("good(-1), gone at 1000", goodFor999().good(-1), 999);
  }

  @Says("which of those that PRINT now is the first not to (of several the lesser number;")
  static void t2_firstOfSeveral() {
    MirrorPlate x = Scene.cut(99, "", 0, 0, 0, 9, 0, 0, 0, 2, 1, 0, 0, 1, 0, 0, 0, 1);
    Check.due("first()", x.first(), 3);
    x.print(20);
    Check.due("first(): 1 and 2 at once", x.first(), 1);
    x.print(20);
    Check.due("first() of those that print now", x.first(), 0);
    Check.due("first(): 1 at once, 0 then", Scene.cut(99, "wear 1", 0, 0, 0, 2, 0, 0, 0, 1).first(), 1);
  }

  @Says("-5: none within 999)")
  static void t2_noneWithin999() {
    MirrorPlate x = goodFor999();
    Check.due("first() at 1000", x.first(), -5);
    x.print(1);
    Check.due("first() at 999", x.first(), 0);
    Check.due("first(), no marks", new MirrorPlate().first(), -5);
    Check.due("first(), none is cut", Scene.full().first(), -5);
    MirrorPlate at1 = Scene.cut(99, "wear 1", 0, 0, 0, 1);
    Check.due("first() at 1", at1.first(), 0);
    at1.print(1);
    Check.due("first(), none prints", at1.first(), -5);
  }

  @Says("FADED behind n PRINTS (0 .. 999) more")
  static void t2_fadedBehind0To999() {
    MirrorPlate x = goodFor999();
    Check.due("faded(0)", x.faded(0), 0);
    Check.due("faded(999), gone at 1000", x.faded(999), 0);
    x.print(1);
    Check.due("faded(999), gone at 999", x.faded(999), 1);
    for (int n : Scene.outside(0, 999)) {
      Check.due("faded(" + n + ")", x.faded(n), MirrorPlate.BAD);
    }
  }

  @Says("those MARKS, as bits, that PRINT now and do not then")
  static void t2_fadedOfThoseThatPrint() {
    MirrorPlate x = Scene.of("", 0, 0, 0, 1, 0, 0, 0, 2, 0, 0, 0, 9, 0, 0, 0, 1, 0, 0, 0, 1, 0, 0, 0, 1, 0, 0, 0, 1, 0, 0, 0, 1);
    x.cut(0, 99);
    x.cut(1, 99);
    x.cut(2, 99);
    x.cut(7, 99);
    Check.due("faded(19)", x.faded(19), 0);
    Check.due("faded(20)", x.faded(20), 1 + 128);
    Check.due("faded(40)", x.faded(40), 1 + 2 + 128);
    x.print(20);
    Check.due("faded(20) of those that print now", x.faded(20), 2);
    Check.due("faded(0)", x.faded(0), 0);
    MirrorPlate y = Scene.cut(99, "wear 1", 0, 0, 0, 1, 0, 0, 0, 2);
    Check.due("faded(0) by WEAR 1", y.faded(0), 0);
    Check.due("faded(1) by WEAR 1", y.faded(1), 1);
    Check.due("faded(2) by WEAR 1", y.faded(2), 3);
  }

  @Says("ORDER of the MARKS that are not CUT (6 at most, else -9)")
  static void t2_orderOf6() {
    Check.due("order(-1), no marks", new MirrorPlate().order(-1), 0);
    MirrorPlate x = Scene.at(1, 2, 3, 4, 5, 6, 7, 8);
    for (int k = -1; k <= 5; k++) {
      Check.due("order(" + k + ") of 8", x.order(k), -9);
    }
    x.cut(0, 99);
    Check.due("order(-1) of 7", x.order(-1), -9);
    Check.due("order(0) of 7", x.order(0), -9);
    x.cut(7, 99);
    Check.due("order(-1) of 6, by TIRED 2 to 7", x.order(-1), 3);
    Check.due("order(0) of 6", x.order(0), 1);
    Check.due("order(5) of 6", x.order(5), 6);
    for (int mark = 1; mark <= 6; mark++) {
      x.cut(mark, 99);
    }
    Check.due("order(-1), all are cut", x.order(-1), 0);
    Check.due("order(0), all are cut", x.order(0), -5);
  }

  @Says("RISK of all, together, is least (of several the first as a row)")
  static void t2_orderFirstAsARow() {
    MirrorPlate x = Scene.of("", 1, 0, 0, 2, 1, 0, 0, 2, 1, 0, 0, 1);
    Check.due("order(-1): 0 by any row", x.order(-1), 0);
    for (int k = 0; k < 3; k++) {
      Check.due("order(" + k + ")", x.order(k), k);
    }
    MirrorPlate y = Scene.of("risk 9 m=1&t<1", 0, 0, 0, 9, 0, 0, 0, 9, 0, 0, 0, 9);
    // TIRED 0, 13, 26 make 0, 2, 5, whatever the row; but 1 may not be first
    Check.due("sum", y.order(-1), 7);
    Check.due("rows: 0 1 2, 0 2 1, 2 0 1, 2 1 0", y.order(0) * 100 + y.order(1) * 10 + y.order(2), 12);
    MirrorPlate z = Scene.of("risk 9 m=0&t<1;risk 9 m=2&t=2", 0, 0, 0, 9, 0, 0, 0, 9, 0, 0, 0, 9);
    Check.due("sum", z.order(-1), 7);
    Check.due("rows: 1 2 0, 2 0 1, 2 1 0", z.order(0) * 100 + z.order(1) * 10 + z.order(2), 120);
  }

  @Says("RESTED of these, cut by their numbers: ahead of which one (of several the first)")
  static void t2_restedOfSeveral() {
    // TIRED 60, 61 are 12, 12; a REST makes 8, 8 of them, ahead of the second 12, 8
    MirrorPlate x = Scene.tired(60, "", 1, 0, 0, 1, 1, 0, 0, 1);
    Check.due("rested()", x.rested(), 0);
    MirrorPlate y = Scene.tired(60, "sure 50 m=0", 1, 0, 0, 1, 1, 0, 0, 1);
    Check.due("rested(): 0, 8 either way", y.rested(), 0);
    MirrorPlate z = Scene.tired(60, "risk 50 m=0&t=4", 1, 0, 0, 1, 1, 0, 0, 1, 1, 0, 0, 1);
    Check.due("rested(): 58 8 8, 12 8 8, 12 12 8", z.rested(), 1);
    MirrorPlate three = Scene.of("", 0, 0, 0, 9, 0, 0, 0, 9, 0, 0, 0, 9);
    Check.due("rested(): 0 2 5, 0 0 2, 0 2 1, by what each takes", three.rested(), 1);
  }

  @Says("makes RISK of all, together, least, if less than without (-5)")
  static void t2_restedIfLess() {
    Check.due("rested(), no marks", new MirrorPlate().rested(), -5);
    Check.due("rested(), TIRED 0", Scene.at(1).rested(), -5);
    Check.due("rested(), 4 by 5 is 0 already", Scene.tired(4, "", 1, 0, 0, 1).rested(), -5);
    Check.due("rested(), 5 by 5 is 1", Scene.tired(5, "", 1, 0, 0, 1).rested(), 0);
    Check.due("rested(), as much as without", Scene.tired(60, "risk 4 t=4", 1, 0, 0, 1).rested(), -5);
    Check.due("rested(), one less than without", Scene.tired(60, "risk 3 t=4", 1, 0, 0, 1).rested(), 0);
    Check.due("rested(), one more than without", Scene.tired(60, "risk 5 t=4", 1, 0, 0, 1).rested(), -5);
    Check.due("rested(), all are cut", Scene.tired(60, "").rested(), -5);
    MirrorPlate x = Scene.at(1, 2, 3, 4, 5, 6, 7);
    x.cut(x.mark(4, 9, 9, 9), 99);
    Check.due("rested() of 7", x.rested(), 0);
  }

  @Says("CLEAN: how likely none has")
  static void t2_cleanOfNone() {
    fraction("clean, no marks", new MirrorPlate().clean(0), new MirrorPlate().clean(1), 1, 1);
    fraction("flaws, no marks", new MirrorPlate().flaws(0), new MirrorPlate().flaws(1), 0, 1);
    MirrorPlate cut = Scene.cut(0, Scene.ALWAYS, 0, 0, 0, 1);
    fraction("clean, all are cut", cut.clean(0), cut.clean(1), 1, 1);
    fraction("flaws, all are cut", cut.flaws(0), cut.flaws(1), 0, 1);
    MirrorPlate safe = Scene.of("", 0, 0, 0, 1);
    fraction("clean, no RISK", safe.clean(0), safe.clean(1), 1, 1);
    MirrorPlate four = Scene.of(Scene.ALWAYS, 0, 0, 0, 1, 0, 0, 0, 1, 0, 0, 0, 1, 0, 0, 0, 1);
    fraction("clean by RISK 99", four.clean(0), four.clean(1), 1, 100000000);
    fraction("flaws by RISK 99", four.flaws(0), four.flaws(1), 99, 25);
  }

  @Says("by the first 4 of these alone, if there are more")
  static void t2_firstFourAlone() {
    MirrorPlate x = Scene.of("risk 10 m<3;risk 20 m=3;risk 50 m>3", 1, 0, 0, 1, 1, 0, 0, 1, 1, 0, 0, 1);
    fraction("flaws of 3", x.flaws(0), x.flaws(1), 3, 10);
    fraction("clean of 3", x.clean(0), x.clean(1), 729, 1000);
    x.mark(1, 0, 0, 1);
    fraction("flaws of 4", x.flaws(0), x.flaws(1), 1, 2);
    fraction("clean of 4", x.clean(0), x.clean(1), 729, 1250);
    x.mark(1, 0, 0, 1);
    fraction("flaws of 5", x.flaws(0), x.flaws(1), 1, 2);
    fraction("clean of 5", x.clean(0), x.clean(1), 729, 1250);
    x.cut(0, 99);
    fraction("flaws of the first 4 that are not cut", x.flaws(0), x.flaws(1), 9, 10);
  }

  @Says("a FLAW does not change what follows")
  static void t2_flawsByTiredAlone() {
    MirrorPlate x = Scene.of("risk 50 m=0;risk 99 m=1;sure 80 m=2", 0, 0, 0, 9, 4, 9, 0, 9, 0, 0, 0, 9, 1, 0, 0, 1);
    // TIRED 0, 13, 99, 99: RISK 50, 99, 0, 19
    fraction("flaws", x.flaws(0), x.flaws(1), 42, 25);
    fraction("clean: 50 by 1 by 100 by 81", x.clean(0), x.clean(1), 81, 20000);
  }

  @Says("99 less its PLACE")
  static void t2_mirrorOfTheEnds() {
    MirrorPlate x = Scene.at(0, 99, 49, 50);
    int[] mirrored = {99, 0, 50, 49};
    for (int mark = 0; mark < 4; mark++) {
      Check.due("mirror(" + mark + ")", x.mirror(mark), mirrored[mark]);
    }
  }

  @Says("BESIDE of a MARK: those others, as bits, that are within 3 of it")
  static void t2_within3() {
    MirrorPlate x = Scene.at(50, 53, 54, 47, 46, 50, 0, 99);
    Check.due("beside(0)", x.beside(0), 2 + 8 + 32);
    Check.due("beside(1)", x.beside(1), 1 + 4 + 32);
    Check.due("beside(2)", x.beside(2), 2);
    Check.due("beside(6): none", x.beside(6), 0);
    Check.due("beside(7): 99 is not beside 0", x.beside(7), 0);
    Check.due("beside(0) of one alone", Scene.at(50).beside(0), 0);
  }

  @Says("CROWD: the MARK with most BESIDE (of several the first;")
  static void t2_crowdOfSeveral() {
    Check.due("crowd(), none has any", Scene.at(10, 20, 30).crowd(), 0);
    Check.due("crowd(), two have one", Scene.at(10, 20, 22).crowd(), 1);
    Check.due("crowd(), two and two", Scene.at(90, 50, 52, 20, 22).crowd(), 1);
    Check.due("crowd(), the last has two", Scene.at(10, 16, 13).crowd(), 2);
  }

  @Says("of several the first; -5: there are no MARKS")
  static void t2_crowdOfNone() {
    Check.due("crowd(), no marks", new MirrorPlate().crowd(), -5);
    Check.due("crowd(), one mark", Scene.at(10).crowd(), 0);
  }

  @Says("ROOM of a DEPTH (1 .. 9)")
  static void t2_roomOf1To9() {
    MirrorPlate x = Scene.at(0);
    Check.due("room(1)", x.room(1), 1);
    Check.due("room(9)", x.room(9), 9);
    for (int depth : Scene.outside(1, 9)) {
      Check.due("room(" + depth + ")", x.room(depth), MirrorPlate.BAD);
    }
  }

  @Says("the least PLACE from which no MARK is nearer than that DEPTH")
  static void t2_roomNotNearer() {
    Check.due("room(9), no marks", new MirrorPlate().room(9), 0);
    Check.due("room(4), 4 is not nearer than 4", Scene.at(4).room(4), 0);
    Check.due("room(5), 4 is nearer than 5", Scene.at(4).room(5), 9);
    Check.due("room(1), two at a place", Scene.at(0, 0, 1).room(1), 2);
    Check.due("room(3): from 10 to 16 there is 13", Scene.at(2, 4, 7, 10, 16).room(3), 13);
  }

  @Says("no MARK is nearer than that DEPTH (-5: none)")
  static void t2_noRoom() {
    Check.due("room(9), the last place", Scene.at(8, 25, 42, 59, 76, 90).room(9), 99);
    Check.due("room(9), one place too few", Scene.at(8, 25, 42, 59, 76, 91).room(9), -5);
    Check.due("room(8) there", Scene.at(8, 25, 42, 59, 76, 91).room(8), 0);
  }

  @Says("PROOF of e (0 .. 9)")
  static void t2_proofOf0To9() {
    MirrorPlate x = Scene.cut(0, Scene.ALWAYS, 0, 0, 0, 6, 0, 0, 0, 1);
    Check.due("proof(0)", x.proof(0), 1);
    x.print(999);
    Check.due("proof(9)", x.proof(9), 3);
    for (int e : Scene.outside(0, 9)) {
      Check.due("proof(" + e + ")", x.proof(e), MirrorPlate.BAD);
    }
  }

  @Says("of which DARK and e, together, are 6 or more")
  static void t2_sixOrMore() {
    MirrorPlate x = Scene.cut(0, Scene.ALWAYS, 0, 0, 0, 5, 0, 0, 0, 6, 0, 0, 0, 7);
    x.cut(x.mark(0, 0, 0, 9), 99);
    x.mark(0, 0, 0, 9);
    Check.due("proof(0): 5, 6, 7 and one without a FLAW", x.proof(0), 2 + 4);
    Check.due("proof(1)", x.proof(1), 1 + 2 + 4);
    x.print(500);
    Check.due("proof(5): DARK 0", x.proof(5), 0);
    Check.due("proof(6): DARK 0", x.proof(6), 1 + 2 + 4);
    MirrorPlate y = Scene.cut(0, "wear 1;risk 99 d>0", 0, 0, 0, 6, 0, 0, 0, 5);
    Check.due("proof(0) as they are now, by WEAR 1", y.proof(0), 1);
    y.print(1);
    Check.due("proof(0) behind one more", y.proof(0), 0);
    Check.due("proof(1) behind one more", y.proof(1), 1);
  }

  @Says("PROOFS: the least e by which PROOF has all MARKS with a FLAW (-5: by none)")
  static void t2_leastProof() {
    Check.due("proofs(), no marks", new MirrorPlate().proofs(), 0);
    Check.due("proofs(), no FLAW", Scene.cut(99, "", 0, 0, 0, 1).proofs(), 0);
    Check.due("proofs(), DARK 9", Scene.cut(0, Scene.ALWAYS, 0, 0, 0, 9).proofs(), 0);
    Check.due("proofs(), DARK 5 and 9", Scene.cut(0, Scene.ALWAYS, 0, 0, 0, 9, 0, 0, 0, 5).proofs(), 1);
    MirrorPlate x = Scene.cut(2, Scene.ALWAYS, 0, 0, 0, 1);
    Check.due("proofs(), DARK 0: there always is one", x.proofs(), 6);
  }

  @Says("MENDS: those with a FLAW, as bits, that would PRINT behind MENDING")
  static void t2_mendsThatWouldPrint() {
    MirrorPlate x = Scene.cut(0, Scene.ALWAYS, 0, 0, 0, 1, 0, 0, 0, 2, 1, 0, 0, 1);
    x.cut(x.mark(0, 0, 0, 9), 99);
    x.mark(0, 0, 0, 9);
    Check.due("mends(): 1, 2, 2 less 1", x.mends(), 2 + 4);
    x.print(999);
    Check.due("mends(), worn", x.mends(), 2 + 4);
    MirrorPlate y = Scene.cut(2, Scene.ALWAYS, 0, 0, 0, 2, 4, 0, 0, 3);
    Check.due("they do not print now", y.print(0), 0);
    Check.due("mends(): too faint no more", y.mends(), 1);
    MirrorPlate z = Scene.cut(0, Scene.ALWAYS, 5, 0, 0, 1);
    z.mend(0);
    Check.due("mends(), mended already", z.mends(), 0);
    MirrorPlate one = Scene.cut(0, "wear 1;risk 99 d>0", 0, 0, 0, 1, 0, 0, 0, 2);
    Check.due("mends(), 0 and 1 then, by WEAR 1", one.mends(), 2);
  }

  @Says("WORTH of a CUT MARK: GOOD of the plate were it gone over now (-5 as 0)")
  static void t2_worthOfNothingThen() {
    MirrorPlate x = Scene.cut(99, "", 4, 0, 0, 1);
    Check.due("good(-1)", x.good(-1), -5);
    Check.due("worth(0): it does not print then either", x.worth(0), 0);
    MirrorPlate y = Scene.cut(99, "wear 1", 0, 0, 0, 1, 0, 0, 0, 9);
    y.print(1);
    Check.due("good(-1): the other alone", y.good(-1), 7);
    Check.due("worth(0): it prints then, good for 1", y.worth(0), 1 - 7);
    Check.due("worth(1): 1 more", y.worth(1), 1);
    MirrorPlate z = Scene.cut(99, "wear 1", 1, 0, 0, 1, 0, 0, 0, 9);
    z.print(1);
    Check.due("good(-1): the thin one prints now, and no more", z.good(-1), 0);
    Check.due("worth(1): it still does then", z.worth(1), 0);
    Check.due("worth(0): good for 2 then", z.worth(0), 2);
    MirrorPlate faint = Scene.cut(99, "wear 2", 4, 0, 0, 3, 0, 0, 0, 9);
    faint.print(4);
    Check.due("good(-1): HATCH does not print", faint.good(-1), 13);
    Check.due("worth(0): HATCH of DEPTH 4, DARK 1 for 3 more", faint.worth(0), 3 - 13);
  }

  @Says("less as it is (-5 as 0)")
  static void t2_worthOfNothingNow() {
    MirrorPlate x = Scene.cut(99, "", 0, 0, 0, 1);
    x.print(20);
    Check.due("good(-1)", x.good(-1), -5);
    Check.due("worth(0)", x.worth(0), 39);
    MirrorPlate y = Scene.cut(99, "", 0, 0, 0, 1);
    y.print(19);
    Check.due("good(-1)", y.good(-1), 0);
    Check.due("worth(0)", y.worth(0), 39);
  }

  @Says("(may be below 0)")
  static void t2_worthBelow0() {
    MirrorPlate x = Scene.cut(99, "", 0, 0, 0, 9, 0, 0, 0, 1);
    x.print(20);
    Check.due("good(-1): 0 alone", x.good(-1), 159);
    Check.due("worth(1): then 1 is in its way", x.worth(1), 39 - 159);
    MirrorPlate y = Scene.cut(99, "wear 99", 2, 0, 0, 9, 0, 0, 0, 1);
    y.print(99);
    Check.due("worth(1)", y.worth(1), 197 - 999);
  }

  @Says("the MARK by whose WORTH is greatest, if above 0")
  static void t2_overIfAbove0() {
    MirrorPlate x = Scene.cut(99, "wear 1", 0, 0, 0, 1);
    Check.due("worth(0)", x.worth(0), 1);
    Check.due("best(), 1", x.best(), 0);
    MirrorPlate y = Scene.cut(99, "wear 1", 0, 0, 0, 9);
    Check.due("worth(0)", y.worth(0), 0);
    Check.due("best(), 0", y.best(), -5);
    MirrorPlate z = Scene.cut(99, "", 0, 0, 0, 9, 0, 0, 0, 1);
    z.over(0);
    z.print(20);
    z.over(0);
    Check.due("worth(0)", z.worth(0), 0);
    Check.due("worth(1)", z.worth(1), 39 - 179);
    Check.due("best(), 0 and below", z.best(), -5);
  }

  @Says("if above 0 (of several the first;")
  static void t2_overOfSeveral() {
    MirrorPlate x = Scene.cut(99, "", 0, 0, 0, 9, 0, 0, 0, 5, 0, 0, 0, 5, 0, 0, 0, 8);
    x.print(180);
    Check.due("worth(0)", x.worth(0), 179);
    Check.due("worth(1), worth(2)", x.worth(1) * 1000 + x.worth(2), 119119);
    Check.due("worth(3)", x.worth(3), 179);
    Check.due("best()", x.best(), 0);
    MirrorPlate y = Scene.cut(99, "", 0, 0, 0, 4, 0, 0, 0, 5, 0, 0, 0, 5);
    y.print(100);
    Check.due("best()", y.best(), 1);
  }

  @Says("above 0 (of several the first; -5: none)")
  static void t2_overNone() {
    Check.due("best(), no marks", new MirrorPlate().best(), -5);
    Check.due("best(), none is cut", Scene.full().best(), -5);
    Check.due("best(), two hold each other back", Scene.cut(99, "", 0, 0, 0, 5, 0, 0, 0, 5).best(), -5);
  }
}
