/** Edges of the promises 17 to 45: what is asked, what is told by hand, acts, the image. */
final class EdgesOfPromises17To45 {
  private static final int NONE = MirrorPlate.NONE, BAD = MirrorPlate.BAD, STATE = MirrorPlate.STATE, FULL = MirrorPlate.FULL;
  private static final long NO = MirrorPlate.NO;
  private static final int[] NO_MARK = Scene.outside(0, Scene.BUSY_MARKS - 1);
  /** -1 empties what is told by hand, so no such mark is next to it. */
  private static final int[] NO_MARK_TOLD = {Integer.MIN_VALUE, -2, Scene.BUSY_MARKS, Integer.MAX_VALUE};

  private EdgesOfPromises17To45() {}

  @Says("k -1 the sum")
  static void p17_sum() {
    Scene.leaves(Scene::full, "order(-1) of 8", x -> x.order(-1), -9);
    Scene.leaves(MirrorPlate::new, "order(-1) of none", x -> x.order(-1), 0);
    Scene.leaves(() -> Scene.tired(50, "", 0, 0, 0, 1), "order(-1) of one", x -> x.order(-1), 10);
    Scene.leaves(() -> Scene.tired(50, "risk 95 m=0;risk 95 m=1", 0, 0, 0, 1, 0, 0, 0, 1), "order(-1)", x -> x.order(-1), 198);
  }

  @Says("else the k-th (-5: there are fewer)")
  static void p17_fewer() {
    Scene.leaves(MirrorPlate::new, "order(0) of none", x -> x.order(0), -5);
    Scene.leaves(() -> Scene.at(1), "order(0) of one", x -> x.order(0), 0);
    Scene.leaves(() -> Scene.at(1), "order(1) of one", x -> x.order(1), -5);
    Scene.leaves(() -> Scene.at(1, 2, 3, 4, 5), "order(4) of 5", x -> x.order(4), 4);
    Scene.leaves(() -> Scene.at(1, 2, 3, 4, 5), "order(5) of 5", x -> x.order(5), -5);
    Scene.leaves(() -> Scene.at(1, 2, 3, 4, 5, 6), "order(5) of 6", x -> x.order(5), 5);
  }

  @Says("; -9. NONE")
  static void p17_moreThan6() {
    for (int k = -1; k <= 5; k++) {
      int asked = k;
      Scene.leaves(() -> Scene.at(1, 2, 3, 4, 5, 6, 7), "order(" + k + ") of 7", x -> x.order(asked), -9);
    }
  }

  @Says("NONE: k (-1 .. 5)")
  static void p17_noK() {
    Scene.refuses("order(n)", Scene.outside(-1, 5), (x, n) -> x.order(n), NONE);
    Scene.leaves(Scene::full, "order(6) of 8", x -> x.order(6), NONE);
  }

  @Says("RESTED; -5")
  static void p18_none() {
    Scene.leaves(MirrorPlate::new, "rested()", MirrorPlate::rested, -5);
    Scene.leaves(() -> Scene.cut(99, "", 4, 9, 0, 9), "rested(), all are cut", MirrorPlate::rested, -5);
    Scene.leaves(() -> Scene.tired(60, "sure 99 d>0", 0, 0, 0, 1), "rested(), no RISK", MirrorPlate::rested, -5);
    Scene.leaves(() -> Scene.tired(60, "", 0, 0, 0, 1), "rested()", MirrorPlate::rested, 0);
  }

  @Says("part 0 above, 1 below the line. NO")
  static void p19_noPart() {
    Scene.refuses("flaws(n)", Scene.outside(0, 1), (x, n) -> x.flaws(n), NO);
    Scene.leaves(MirrorPlate::new, "flaws(2) of none", x -> x.flaws(2), NO);
    Scene.leaves(() -> Scene.of("risk 25 m=0", 0, 0, 0, 1), "flaws(0)", x -> x.flaws(0), 1);
    Scene.leaves(() -> Scene.of("risk 25 m=0", 0, 0, 0, 1), "flaws(1)", x -> x.flaws(1), 4);
  }

  @Says("part likewise. NO")
  static void p20_noPart() {
    Scene.refuses("clean(n)", Scene.outside(0, 1), (x, n) -> x.clean(n), NO);
    Scene.leaves(MirrorPlate::new, "clean(-1) of none", x -> x.clean(-1), NO);
    Scene.leaves(() -> Scene.of("risk 25 m=0", 0, 0, 0, 1), "clean(0)", x -> x.clean(0), 3);
    Scene.leaves(() -> Scene.of("risk 25 m=0", 0, 0, 0, 1), "clean(1)", x -> x.clean(1), 4);
  }

  @Says("NONE")
  static void p21_noMark() {
    Scene.refuses("mirror(n)", NO_MARK, (x, n) -> x.mirror(n), NONE);
    Scene.leaves("mirror(3)", x -> x.mirror(3), 59);
  }

  @Says("NONE")
  static void p22_noMark() {
    Scene.refuses("beside(n)", NO_MARK, (x, n) -> x.beside(n), NONE);
    Scene.leaves("beside(0)", x -> x.beside(0), 2);
    Scene.leaves("beside(3)", x -> x.beside(3), 0);
  }

  @Says("CROWD; -5")
  static void p23_none() {
    Scene.leaves(MirrorPlate::new, "crowd()", MirrorPlate::crowd, -5);
    Scene.leaves(() -> Scene.at(99), "crowd()", MirrorPlate::crowd, 0);
  }

  @Says("ROOM; -5")
  static void p24_none() {
    Scene.leaves(() -> Scene.at(8, 25, 42, 59, 76, 93), "room(9)", x -> x.room(9), -5);
    Scene.leaves(MirrorPlate::new, "room(9)", x -> x.room(9), 0);
  }

  @Says("BAD")
  static void p24_bad() {
    Scene.refuses("room(n)", Scene.outside(1, 9), (x, n) -> x.room(n), BAD);
    Scene.leaves(MirrorPlate::new, "room(0)", x -> x.room(0), BAD);
    Scene.leaves(MirrorPlate::new, "room(1)", x -> x.room(1), 0);
  }

  @Says("BAD")
  static void p25_bad() {
    Scene.refuses("proof(n)", Scene.outside(0, 9), (x, n) -> x.proof(n), BAD);
    Scene.leaves(MirrorPlate::new, "proof(10)", x -> x.proof(10), BAD);
    Scene.leaves(MirrorPlate::new, "proof(9)", x -> x.proof(9), 0);
  }

  @Says("PROOFS; -5")
  static void p26_neverNone() {
    MirrorPlate x = Scene.cut(2, Scene.ALWAYS, 0, 0, 0, 1, 4, 0, 0, 1, 6, 0, 0, 1);
    x.print(999);
    Check.due("proof(5)", x.proof(5), 0);
    Check.due("proofs(): e 6 finds DARK 0, so -5 is never due", x.proofs(), 6);
    Scene.leaves(MirrorPlate::new, "proofs()", MirrorPlate::proofs, 0);
  }

  @Says("MENDS (bits)")
  static void p27_none() {
    Scene.leaves(MirrorPlate::new, "mends()", MirrorPlate::mends, 0);
    Scene.leaves(Scene::full, "mends(), none is cut", MirrorPlate::mends, 0);
    Scene.leaves(() -> Scene.cut(0, Scene.ALWAYS, 0, 0, 0, 1), "mends(), 1 less 1", MirrorPlate::mends, 0);
    MirrorPlate all = Scene.full();
    Check.plate(all, Scene.ALWAYS);
    for (int mark = 0; mark < 8; mark++) {
      all.cut(mark, 0);
    }
    Check.due("mends() of 8: 1 less 1 does not print", all.mends(), 254);
  }

  @Says("-1001: NONE")
  static void p28_noMark() {
    Scene.refuses("worth(n)", NO_MARK, (x, n) -> x.worth(n), -1001);
    Check.due("worth(0), no marks", new MirrorPlate().worth(0), -1001);
  }

  @Says("-1002: it is not CUT")
  static void p28_notCut() {
    Scene.leaves("worth(2)", x -> x.worth(2), -1002);
    Scene.leaves("worth(3)", x -> x.worth(3), -1002);
  }

  @Says("OVER; -5")
  static void p29_none() {
    Scene.leaves(MirrorPlate::new, "best()", MirrorPlate::best, -5);
    Scene.leaves(Scene::full, "best(), none is cut", MirrorPlate::best, -5);
    Scene.leaves(() -> Scene.cut(99, "", 0, 0, 0, 9), "best(), nothing to gain", MirrorPlate::best, -5);
    Scene.leaves(() -> Scene.cut(99, "", 0, 0, 0, 8), "best()", MirrorPlate::best, 0);
  }

  @Says("(mark -1: none then, 0, whatever the other is)")
  static void p30_noneThen() {
    for (int dark : new int[] {0, 30, -1, 31, Integer.MIN_VALUE, Integer.MAX_VALUE}) {
      MirrorPlate x = Scene.full();
      Check.due("see(-1, " + dark + ")", x.see(-1, dark), 0);
      Check.due("count(2)", x.count(2), 0);
      Check.due("ran(0)", x.ran(0), 1000);
      Check.due("the plan is as it was", x.count(3), 8);
      Check.due("the book is as it was", x.count(4), 8);
      Check.due("see(0, 0)", x.see(0, 0), 1);
    }
    Scene.leaves(MirrorPlate::new, "see(-1, 0) of none", x -> x.see(-1, 0), 0);
  }

  @Says("NONE; BAD")
  static void p30_noMark() {
    Scene.refuses("see(n, 0)", NO_MARK_TOLD, (x, n) -> x.see(n, 0), NONE);
  }

  @Says("BAD: dark")
  static void p30_badDark() {
    Scene.refuses("see(0, n)", Scene.outside(0, 30), (x, n) -> x.see(0, n), BAD);
  }

  @Says("dark; FULL")
  static void p30_full() {
    Scene.leaves(Scene::full, "see(0, 0), the 7th", x -> x.see(0, 0), FULL);
  }

  @Says("1 the least; -5")
  static void p31_none() {
    Scene.leaves(EdgesOfPromises17To45::neverSo, "ran(0)", x -> x.ran(0), 0);
    Scene.leaves(EdgesOfPromises17To45::neverSo, "ran(1)", x -> x.ran(1), -5);
    Scene.leaves(MirrorPlate::new, "ran(0), nothing seen", x -> x.ran(0), 1000);
    Scene.leaves(MirrorPlate::new, "ran(1), nothing seen", x -> x.ran(1), 0);
  }

  private static MirrorPlate neverSo() {
    MirrorPlate x = Scene.cut(99, "", 0, 0, 0, 5);
    x.see(0, 6);
    return x;
  }

  @Says("-5. NONE")
  static void p31_noWhat() {
    Scene.refuses("ran(n)", Scene.outside(0, 1), (x, n) -> x.ran(n), NONE);
  }

  @Says("BAD")
  static void p32_bad() {
    Scene.refuses("hand(n)", Scene.outside(0, 99), (x, n) -> x.hand(n), BAD);
    Scene.leaves(MirrorPlate::new, "hand(100)", x -> x.hand(100), BAD);
    Scene.leaves(MirrorPlate::new, "hand(99)", x -> x.hand(99), 0);
    MirrorPlate all = Scene.full();
    Check.plate(all, Scene.ALWAYS);
    Check.due("hand(98) of 8", all.hand(98), 255);
  }

  @Says("ERRS")
  static void p33_none() {
    Scene.leaves(MirrorPlate::new, "errs()", MirrorPlate::errs, 0);
    Scene.leaves(() -> Scene.cut(0, "", 0, 0, 0, 1), "errs()", MirrorPlate::errs, 0);
    Scene.leaves(() -> Scene.cut(98, Scene.ALWAYS, 0, 0, 0, 1), "errs()", MirrorPlate::errs, 3);
  }

  @Says("NO: q")
  static void p34_noQ() {
    Scene.refuses("odds(n, 0, 0)", Scene.outside(0, 30), (x, n) -> x.odds(n, 0, 0), NO);
  }

  @Says("NO: q, n")
  static void p34_noN() {
    Scene.refuses("odds(0, n, 1)", Scene.outside(0, 999), (x, n) -> x.odds(0, n, 1), NO);
  }

  @Says("NO: q, n, part")
  static void p34_noPart() {
    Scene.refuses("odds(0, 0, n)", Scene.outside(0, 1), (x, n) -> x.odds(0, 0, n), NO);
  }

  @Says("part, none")
  static void p34_noneIsCut() {
    Scene.leaves(MirrorPlate::new, "odds(0, 0, 0)", x -> x.odds(0, 0, 0), NO);
    Scene.leaves(Scene::full, "odds(0, 0, 1)", x -> x.odds(0, 0, 1), NO);
    Scene.leaves("odds(0, 0, 1)", x -> x.odds(0, 0, 1), 1);
  }

  @Says("NO")
  static void p35_no() {
    Scene.refuses("mean(n, 0)", Scene.outside(0, 999), (x, n) -> x.mean(n, 0), NO);
    Scene.refuses("mean(0, n)", Scene.outside(0, 1), (x, n) -> x.mean(0, n), NO);
    Scene.leaves(MirrorPlate::new, "mean(0, 0)", x -> x.mean(0, 0), NO);
    Scene.leaves(Scene::full, "mean(999, 1)", x -> x.mean(999, 1), NO);
  }

  @Says("(what -1: none then, 0, whatever the other is)")
  static void p36_noneThen() {
    for (int mark : new int[] {0, -1, 8, Integer.MIN_VALUE, Integer.MAX_VALUE}) {
      MirrorPlate x = Scene.full();
      Check.due("plan(-1, " + mark + ")", x.plan(-1, mark), 0);
      Check.due("count(3)", x.count(3), 0);
      Check.due("done(0)", x.done(0), 0);
      Check.due("what is seen is as it was", x.count(2), 6);
      Check.due("the book is as it was", x.count(4), 8);
      Check.due("plan(3, 0)", x.plan(3, 0), 1);
      Check.due("done(0)", x.done(0), 10);
    }
    Scene.leaves(MirrorPlate::new, "plan(-1, 0) of none", x -> x.plan(-1, 0), 0);
  }

  @Says("NONE: what")
  static void p36_noWhat() {
    int[] noWhat = {Integer.MIN_VALUE, -2, 5, Integer.MAX_VALUE};
    Scene.refuses("plan(n, 0)", noWhat, (x, n) -> x.plan(n, 0), NONE);
  }

  @Says("NONE: what, mark")
  static void p36_noMark() {
    for (int what = 0; what <= 2; what++) {
      int planned = what;
      Scene.refuses("plan(" + what + ", n)", NO_MARK, (x, n) -> x.plan(planned, n), NONE);
    }
    Check.due("plan(0, 0), no marks", new MirrorPlate().plan(0, 0), NONE);
    Check.due("plan(3, 0), no marks", new MirrorPlate().plan(3, 0), 1);
  }

  @Says("FULL: 8")
  static void p36_full() {
    for (int what = 0; what <= 4; what++) {
      int planned = what;
      Scene.leaves(Scene::full, "plan(" + what + ", 0), the 9th", x -> x.plan(planned, 0), FULL);
    }
  }

  @Says("NONE")
  static void p37_noWhat() {
    Scene.refuses("done(n)", Scene.outside(0, 2), (x, n) -> x.done(n), NONE);
  }

  @Says("(mark -1: none then, 0, whatever the others are)")
  static void p38_noneThen() {
    for (int other : new int[] {0, 30, -1, 31, 1000, Integer.MIN_VALUE, Integer.MAX_VALUE}) {
      MirrorPlate x = Scene.full();
      Check.due("book(-1, " + other + ", " + other + ")", x.book(-1, other, other), 0);
      Check.due("count(4)", x.count(4), 0);
      Check.due("looked()", x.looked(), -5);
      Check.due("what is seen is as it was", x.count(2), 6);
      Check.due("the plan is as it was", x.count(3), 8);
      Check.due("book(0, 0, 0)", x.book(0, 0, 0), 1);
    }
    Scene.leaves(MirrorPlate::new, "book(-1, 0, 0) of none", x -> x.book(-1, 0, 0), 0);
  }

  @Says("NONE; BAD")
  static void p38_noMark() {
    Scene.refuses("book(n, 0, 0)", NO_MARK_TOLD, (x, n) -> x.book(n, 0, 0), NONE);
  }

  @Says("BAD: n (0 .. 999)")
  static void p38_badN() {
    Scene.refuses("book(0, n, 0)", Scene.outside(0, 999), (x, n) -> x.book(0, n, 0), BAD);
    MirrorPlate x = Scene.at(1);
    Check.due("book(0, 0, 0)", x.book(0, 0, 0), 1);
    Check.due("book(0, 999, 0)", x.book(0, 999, 0), 2);
  }

  @Says("dark (0 .. 30)")
  static void p38_badDark() {
    Scene.refuses("book(0, 0, n)", Scene.outside(0, 30), (x, n) -> x.book(0, 0, n), BAD);
    MirrorPlate x = Scene.at(1);
    Check.due("book(0, 0, 0)", x.book(0, 0, 0), 1);
    Check.due("book(0, 0, 30)", x.book(0, 0, 30), 2);
    Check.due("looked()", x.looked(), 1);
  }

  @Says("30); FULL")
  static void p38_full() {
    Scene.leaves(Scene::full, "book(0, 0, 0), the 9th", x -> x.book(0, 0, 0), FULL);
  }

  @Says("LOOKED at; -5")
  static void p39_none() {
    Scene.leaves(MirrorPlate::new, "looked()", MirrorPlate::looked, -5);
    Scene.leaves(Scene::full, "looked()", MirrorPlate::looked, 1);
  }

  private static void noAct(String call, Scene.Ask ask) {
    MirrorPlate x = Scene.busy();
    Check.due("count(6) ahead of it", x.count(6), 5);
    Check.due(call, ask.of(x), 0);
    Check.due("count(6)", x.count(6), 0);
    for (int i = 0; i < 5; i++) {
      Check.due("trace(" + i + ")", x.trace(i), NONE);
    }
    MirrorPlate like = Scene.busy();
    like.act(0, -1, 0);
    Check.holds(call + " changes nothing else", Scene.all(x).equals(Scene.all(like)));
  }

  @Says("0, and no TRACE then: no such MARK")
  static void p40_noMark() {
    for (int mark : NO_MARK) {
      noAct("act(" + mark + ", 0, 5)", x -> x.act(mark, 0, 5));
    }
    Check.due("act(0, 0, 5), no marks", new MirrorPlate().act(0, 0, 5), 0);
  }

  @Says("no such MARK, act")
  static void p40_noAct() {
    for (int act : Scene.outside(0, 2)) {
      noAct("act(0, " + act + ", 5)", x -> x.act(0, act, 5));
    }
  }

  @Says("NONE")
  static void p41_none() {
    Scene.refuses("trace(n)", Scene.outside(0, 4), (x, n) -> x.trace(n), NONE);
    Scene.refuses("trace(n)", Scene.outside(0, 19), (x, n) -> x.trace(n), NONE);
    Scene.leaves("trace(4)", x -> x.trace(4), 1);
    Scene.leaves("trace(0)", x -> x.trace(0), 31);
    Scene.leaves(MirrorPlate::new, "trace(0) of none", x -> x.trace(0), NONE);
  }

  @Says("taken for a KIND k (0 .. 6)")
  static void p42_kinds() {
    MirrorPlate x = Scene.full();
    for (int kind = 0; kind <= 6; kind++) {
      Check.due("as(" + kind + ", " + kind + ")", x.as(kind, kind), 1);
    }
  }

  @Says("or one under that: its v")
  static void p42_underThat() {
    MirrorPlate x = Scene.full();
    int[][] isUnder = {{1, 0}, {2, 0}, {3, 0}, {4, 0}, {4, 1}, {5, 0}, {5, 2}, {6, 0}, {6, 3}};
    for (int[] pair : isUnder) {
      Check.due("as(" + pair[0] + ", " + pair[1] + ")", x.as(pair[0], pair[1]), 1);
    }
    Scene.leaves(() -> Scene.of("", 6, 0, 0, 1), "as(0, 3), v 0", y -> y.as(0, 3), 0);
    Scene.leaves(() -> Scene.of("", 6, 9, 0, 1), "as(0, 0), v 9", y -> y.as(0, 0), 9);
  }

  @Says("NONE: mark, k")
  static void p42_none() {
    Scene.refuses("as(n, 0)", NO_MARK, (x, n) -> x.as(n, 0), NONE);
    Scene.refuses("as(0, n)", Scene.outside(0, 6), (x, n) -> x.as(0, n), NONE);
  }

  @Says("-6: it is of another KIND")
  static void p42_anotherKind() {
    int[][] isNot = {{0, 1}, {0, 6}, {1, 2}, {1, 4}, {2, 1}, {2, 5}, {3, 6}, {3, 2}, {4, 2}, {4, 3}, {4, 5}, {5, 1}, {5, 3},
        {5, 4}, {5, 6}, {6, 1}, {6, 2}, {6, 5}};
    for (int[] pair : isNot) {
      Scene.leaves(Scene::full, "as(" + pair[0] + ", " + pair[1] + ")", x -> x.as(pair[0], pair[1]), -6);
    }
  }

  @Says("THE IMAGE is taken: how many MARKS there are")
  static void p43_imageOfNothing() {
    MirrorPlate x = new MirrorPlate();
    Check.due("image()", x.image(), 0);
    MirrorPlate full = Scene.full();
    Check.due("image() of 8", full.image(), 8);
    x.mark(0, 0, 0, 1);
    Check.plate(x, "wear 9");
    x.feed('w');
    x.print(5);
    Check.due("undo() to nothing", x.undo(), 0);
    MirrorPlate none = new MirrorPlate();
    none.image();
    Check.holds("all is as a new one", Scene.all(x).equals(Scene.all(none)));
    MirrorPlate twice = Scene.at(1);
    twice.image();
    twice.mark(0, 0, 0, 1);
    Check.due("image() again", twice.image(), 2);
    twice.mark(0, 0, 0, 1);
    Check.due("undo() to the newer one", twice.undo(), 2);
  }

  @Says("STATE: there is none")
  static void p44_noImage() {
    Scene.leaves(MirrorPlate::new, "undo()", MirrorPlate::undo, STATE);
    Scene.leaves(Scene::full, "undo()", MirrorPlate::undo, STATE);
    MirrorPlate x = Scene.at(1);
    x.image();
    x.mark(0, 0, 0, 1);
    Check.due("undo()", x.undo(), 1);
    Check.due("undo() again: the image stays", x.undo(), 1);
  }

  @Says("6 bodies that ran in the latest act() (all, kept or not)")
  static void p45_bodiesThatRan() {
    MirrorPlate x = Scene.of("", 4, 0, 0, 1);
    Check.due("count(6), no act", x.count(6), 0);
    x.act(0, 2, 1);
    Check.due("count(6): the most that any act has", x.count(6), 7);
    x.act(0, 0, 1);
    Check.due("count(6) of the latest", x.count(6), 2);
  }

  @Says("NONE")
  static void p45_noWhat() {
    Scene.refuses("count(n)", Scene.outside(0, 6), (x, n) -> x.count(n), NONE);
  }

  @Says("0 MARKS, 1 PLATES, 2 of SEEN, 3 of the PLAN, 4 rows of BOOK, 5 signs of THE TAPE")
  static void p45_emptyAndFull() {
    for (int what = 0; what <= 6; what++) {
      Check.due("new: count(" + what + ")", new MirrorPlate().count(what), 0);
    }
    MirrorPlate x = Scene.full();
    for (int i = 0; i < 5; i++) {
      Check.plate(x, "wear 1");
    }
    for (int i = 0; i <= 100; i++) {
      x.feed('w');
    }
    int[] full = {8, 5, 6, 8, 8, 100};
    for (int what = 0; what < full.length; what++) {
      Check.due("full: count(" + what + ")", x.count(what), full[what]);
    }
  }
}
