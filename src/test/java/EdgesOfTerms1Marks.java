/** Edges of Terms, ==== 1: MARKS, THE HAND, cutting, mending, PRINTS, DARK. */
final class EdgesOfTerms1Marks {
  private static final int NONE = MirrorPlate.NONE, BAD = MirrorPlate.BAD, STATE = MirrorPlate.STATE, FULL = MirrorPlate.FULL;
  private static final int KIND = 0, V = 1, PLACE = 2, DEPTH = 3, CUT = 4, FLAW = 5, WORN = 6, MENDED = 7, NEEDS = 9, DARK = 10;
  private static final int MINUTE = 0, PRINTS = 1, TIRED = 2;

  private EdgesOfTerms1Marks() {}

  private static MirrorPlate cutOne(String clauses, int draw, int kind, int depth) {
    return Scene.cut(draw, clauses, kind, 0, 0, depth);
  }

  private static void darkIs(MirrorPlate x, int... printsAndDark) {
    for (int i = 0; i < printsAndDark.length; i += 2) {
      Check.due("dark(0, " + printsAndDark[i] + ")", x.dark(0, printsAndDark[i]), printsAndDark[i + 1]);
    }
  }

  @Says("MARKS are numbered from 0 on, 8 at most")
  static void t1_eightMarks() {
    MirrorPlate x = new MirrorPlate();
    for (int i = 0; i < 8; i++) {
      Check.due("mark, the " + (i + 1) + "th", x.mark(0, i, i, 1), i);
    }
    Check.due("mark, the 9th", x.mark(0, 9, 9, 1), FULL);
    Check.due("count(0)", x.count(0), 8);
    Check.due("v of the last", x.of(7, V), 7);
    Check.due("there is no 8", x.of(8, V), NONE);
  }

  @Says("a number v (0 .. 9)")
  static void t1_v() {
    MirrorPlate x = Scene.of("", 0, 0, 0, 1, 0, 9, 0, 1);
    Check.due("v 0", x.of(0, V), 0);
    Check.due("v 9", x.of(1, V), 9);
    for (int v : Scene.outside(0, 9)) {
      Check.due("v " + v, x.mark(0, v, 0, 1), BAD);
    }
  }

  @Says("a PLACE from the left of the plate (0 .. 99)")
  static void t1_place() {
    MirrorPlate x = Scene.of("", 0, 0, 0, 1, 0, 0, 99, 1);
    Check.due("PLACE 0", x.of(0, PLACE), 0);
    Check.due("PLACE 99", x.of(1, PLACE), 99);
    for (int place : Scene.outside(0, 99)) {
      Check.due("PLACE " + place, x.mark(0, 0, place, 1), BAD);
    }
  }

  @Says("a DEPTH (1 .. 9)")
  static void t1_depth() {
    MirrorPlate x = Scene.of("", 0, 0, 0, 1, 0, 0, 0, 9);
    Check.due("DEPTH 1", x.of(0, DEPTH), 1);
    Check.due("DEPTH 9", x.of(1, DEPTH), 9);
    for (int depth : Scene.outside(1, 9)) {
      Check.due("DEPTH " + depth, x.mark(0, 0, 0, depth), BAD);
    }
  }

  @Says("TOLD ones a ROW of four numbers (0 .. 9")
  static void t1_row() {
    MirrorPlate x = Scene.of("", 6, 0, 0, 1);
    for (int k = 0; k < 4; k++) {
      x.row(0, k, 9);
      Check.due("row(0, " + k + ", 0)", x.row(0, k, 0), 9);
      Check.due("row(0, " + k + ", 9)", x.row(0, k, 9), 0);
      for (int n : Scene.outside(0, 9)) {
        Check.due("row(0, " + k + ", " + n + ")", x.row(0, k, n), BAD);
      }
    }
    Check.due("there is no fifth", x.row(0, 4, 0), NONE);
  }

  @Says("ROW of four numbers (0 .. 9; 0 at first)")
  static void t1_rowAtFirst() {
    MirrorPlate x = Scene.cut(99, "", 6, 0, 0, 5);
    for (int k = 0; k < 4; k++) {
      Check.due("DARK by the ROW, " + k, x.dark(0, k), 5);
      Check.due("row(0, " + k + ", 0)", x.row(0, k, 0), 0);
    }
    x.image();
    x.row(0, 0, 9);
    x.mark(6, 0, 0, 5);
    x.row(1, 0, 7);
    x.undo();
    x.mark(6, 0, 0, 5);
    Check.due("of a new one in the place of one that is gone", x.row(1, 0, 0), 0);
  }

  @Says("Each is not CUT (at first)")
  static void t1_notCutAtFirst() {
    MirrorPlate x = Scene.full();
    for (int mark = 0; mark < 8; mark++) {
      Check.due("CUT of mark " + mark, x.of(mark, CUT), 0);
    }
    x.cut(3, 99);
    Check.due("CUT", x.of(3, CUT), 1);
    Check.due("CUT of the next", x.of(4, CUT), 0);
  }

  @Says("FLAW (0 none;")
  static void t1_noFlaw() {
    MirrorPlate x = Scene.of("", 0, 0, 0, 1);
    Check.due("FLAW of one that is not cut", x.of(0, FLAW), 0);
    Check.due("cut(0, 0)", x.cut(0, 0), 0);
    Check.due("FLAW", x.of(0, FLAW), 0);
  }

  @Says("WORN (PRINTS since it was cut, mended or gone over; 0)")
  static void t1_wornFrom0() {
    MirrorPlate x = Scene.of("", 0, 0, 0, 9);
    x.print(7);
    Check.due("WORN of one that is not cut", x.of(0, WORN), 0);
    x.cut(0, 99);
    Check.due("WORN, cut", x.of(0, WORN), 0);
    x.print(0);
    Check.due("WORN by no PRINTS", x.of(0, WORN), 0);
    x.print(1);
    Check.due("WORN by 1", x.of(0, WORN), 1);
    x.mend(0);
    Check.due("WORN, mended", x.of(0, WORN), 0);
    x.print(1);
    x.over(0);
    Check.due("WORN, gone over", x.of(0, WORN), 0);
  }

  @Says("MENDED (how often; 0 .. 9)")
  static void t1_mendedNineTimes() {
    MirrorPlate x = cutOne("", 99, 2, 9);
    for (int times = 0; times < 9; times++) {
      Check.due("MENDED", x.of(0, MENDED), times);
      x.mend(0);
    }
    Check.due("MENDED", x.of(0, MENDED), 9);
    Check.due("mend(0), the 10th", x.mend(0), STATE);
    Check.due("MENDED still", x.of(0, MENDED), 9);
  }

  @Says("THE HAND: TIRED (0 .. 99; 0 at first)")
  static void t1_tired() {
    MirrorPlate x = Scene.of("", 4, 9, 0, 9, 1, 0, 0, 9, 1, 0, 0, 1);
    Check.due("TIRED at first", x.told(TIRED), 0);
    x.rest(60);
    Check.due("TIRED, rested", x.told(TIRED), 0);
    x.cut(0, 99);
    x.cut(1, 99);
    Check.due("TIRED", x.told(TIRED), 99);
    x.cut(2, 99);
    Check.due("TIRED is no more", x.told(TIRED), 99);
    Check.due("RISK by TIRED 99", x.of(2, 8), 19);
  }

  @Says("MINUTE, PRINTS: 0 at first")
  static void t1_minuteAndPrintsAtFirst() {
    MirrorPlate x = new MirrorPlate();
    Check.due("MINUTE", x.told(MINUTE), 0);
    Check.due("PRINTS", x.told(PRINTS), 0);
  }

  @Says("NEEDS of a MARK (MINUTES): MARK: 3 times DEPTH. LINE: twice DEPTH. LETTER: 3 times DEPTH and v. NUMBER: as MARK, and 4")
  static void t1_needsByLeastAndMost() {
    int[] least = {3, 2, 3, 7, 2, 3, 7};
    int[] most = {27, 18, 36, 31, 180, 36, 31};
    for (int kind = 0; kind <= 6; kind++) {
      MirrorPlate x = Scene.of("", kind, 0, 0, 1, kind, 9, 99, 9);
      Check.due("NEEDS of kind " + kind + ", v 0, DEPTH 1", x.of(0, NEEDS), least[kind]);
      Check.due("NEEDS of kind " + kind + ", v 9, DEPTH 9", x.of(1, NEEDS), most[kind]);
      x.cut(0, 99);
      Check.due("MINUTE", x.told(MINUTE), least[kind]);
      Check.due("TIRED", x.told(TIRED), least[kind] / 2);
    }
  }

  @Says("HATCH: as LINE, times v and 1")
  static void t1_needsByV0() {
    MirrorPlate x = Scene.of("", 4, 0, 0, 1, 4, 9, 0, 9, 2, 0, 0, 1, 5, 9, 0, 9);
    Check.due("NEEDS of HATCH, v 0, DEPTH 1", x.of(0, NEEDS), 2);
    Check.due("NEEDS of HATCH, v 9, DEPTH 9", x.of(1, NEEDS), 180);
    Check.due("NEEDS of LETTER, v 0, DEPTH 1", x.of(2, NEEDS), 3);
    Check.due("NEEDS of TURNED, v 9, DEPTH 9", x.of(3, NEEDS), 36);
  }

  @Says("by a DRAW d (0 .. 99)")
  static void t1_draw() {
    MirrorPlate x = Scene.of(Scene.ALWAYS, 0, 0, 0, 1, 0, 0, 0, 1, 0, 0, 0, 1);
    for (int d : Scene.outside(0, 99)) {
      Check.due("cut(0, " + d + ")", x.cut(0, d), BAD);
    }
    Check.due("cut(0, 0)", x.cut(0, 0), 1);
    Check.due("cut(1, 98)", x.cut(1, 98), 3);
    Check.due("cut(2, 99)", x.cut(2, 99), 0);
  }

  @Says("TIRED is the half of NEEDS (cut)")
  static void t1_halfOfNeeds() {
    MirrorPlate x = Scene.of("", 0, 0, 0, 1, 1, 0, 0, 1, 0, 0, 0, 3);
    x.cut(0, 99);
    Check.due("3 by 2", x.told(TIRED), 1);
    x.cut(1, 99);
    Check.due("2 by 2", x.told(TIRED), 1 + 1);
    x.cut(2, 99);
    Check.due("9 by 2", x.told(TIRED), 1 + 1 + 4);
    Check.due("MINUTES are not halved", x.told(MINUTE), 3 + 2 + 9);
  }

  @Says("half of NEEDS (cut) more (99 at most)")
  static void t1_tiredByCutting() {
    MirrorPlate x = Scene.tired(90, "", 1, 0, 0, 8, 1, 0, 0, 1, 4, 9, 0, 9);
    x.cut(0, 99);
    Check.due("90 and 8", x.told(TIRED), 98);
    x.cut(1, 99);
    Check.due("98 and 1", x.told(TIRED), 99);
    x.cut(2, 99);
    Check.due("99 and 90", x.told(TIRED), 99);
  }

  @Says("if d is below RISK")
  static void t1_drawBelowRisk() {
    Check.due("d is 29", Scene.of("risk 30 m=0", 0, 0, 0, 1).cut(0, 29), 3);
    Check.due("d is 30", Scene.of("risk 30 m=0", 0, 0, 0, 1).cut(0, 30), 0);
    Check.due("d is 31", Scene.of("risk 30 m=0", 0, 0, 0, 1).cut(0, 31), 0);
    Check.due("d is 0, RISK 1", Scene.of("risk 1 m=0", 0, 0, 0, 1).cut(0, 0), 1);
    Check.due("d is 0, RISK 0", Scene.of("risk 0 m=0", 0, 0, 0, 1).cut(0, 0), 0);
    Check.due("d is 98, RISK 99", Scene.of("risk 99 m=0", 0, 0, 0, 1).cut(0, 98), 3);
    Check.due("d is 99, RISK 99", Scene.of("risk 99 m=0", 0, 0, 0, 1).cut(0, 99), 0);
  }

  @Says("RISK (by TIRED ahead of it)")
  static void t1_riskAheadOfTheCut() {
    MirrorPlate x = Scene.of("", 4, 9, 0, 9, 1, 0, 0, 1);
    Check.due("TIRED ahead of it is 0", x.cut(0, 0), 0);
    Check.due("TIRED ahead of it is 90: RISK 18", x.cut(1, 17), 3);
    MirrorPlate y = Scene.of("risk 50 t=0", 4, 9, 0, 9, 4, 9, 0, 9);
    Check.due("t ahead of it is 0", y.cut(0, 49), 2);
    Check.due("t ahead of it is 9: RISK 18", y.cut(1, 18), 0);
  }

  @Says("by d modulo 3 being 0, 1, 2")
  static void t1_drawModulo3() {
    int[] flaws = {1, 2, 3, 1, 2, 3};
    for (int d = 0; d < 6; d++) {
      Check.due("cut(0, " + d + ")", cutOne(Scene.ALWAYS, d, 0, 1).of(0, FLAW), flaws[d]);
    }
    Check.due("cut(0, 96)", cutOne(Scene.ALWAYS, 96, 0, 1).of(0, FLAW), 1);
    Check.due("cut(0, 97)", cutOne(Scene.ALWAYS, 97, 0, 1).of(0, FLAW), 2);
  }

  @Says("but a TURNED one has 1 in place of 2")
  static void t1_turnedIsNotRunOn() {
    int[] flaws = {1, 1, 3, 1, 1, 3};
    for (int d = 0; d < 6; d++) {
      Check.due("cut(0, " + d + ")", cutOne(Scene.ALWAYS, d, 5, 1).of(0, FLAW), flaws[d]);
    }
    Check.due("a LETTER by 1", cutOne(Scene.ALWAYS, 1, 2, 1).of(0, FLAW), 2);
    Check.due("a TURNED one by 99", cutOne(Scene.ALWAYS, 99, 5, 1).of(0, FLAW), 0);
  }

  @Says("else none")
  static void t1_elseNone() {
    for (int kind = 0; kind <= 6; kind++) {
      MirrorPlate x = cutOne("risk 4 m=0", 4, kind, 5);
      Check.due("FLAW of kind " + kind, x.of(0, FLAW), 0);
      Check.due("errs() of kind " + kind, x.errs(), 0);
    }
  }

  @Says("TIRED twice n less (0 at least)")
  static void t1_rest() {
    MirrorPlate x = Scene.tired(5, "");
    Check.due("rest(0)", x.rest(0), 5);
    Check.due("rest(2)", x.rest(2), 1);
    Check.due("rest(1)", x.rest(1), 0);
    Check.due("rest(1) of 0", x.rest(1), 0);
    MirrorPlate y = Scene.tired(4, "");
    Check.due("rest(2) of 4", y.rest(2), 0);
    MirrorPlate z = Scene.tired(99, "");
    Check.due("rest(49) of 99", z.rest(49), 1);
    MirrorPlate all = Scene.tired(99, "");
    Check.due("rest(60) of 99", all.rest(60), 0);
  }

  @Says("MEND MINUTES go, FLAW becomes 0")
  static void t1_noFlawBehindMending() {
    int[] draws = {0, 1, 2, 99};
    int[] dark = {6, 6, 4, 6};
    for (int i = 0; i < draws.length; i++) {
      MirrorPlate x = cutOne(Scene.ALWAYS, draws[i], 0, 6);
      Check.due("DARK by the draw " + draws[i], x.of(0, DARK), dark[i]);
      Check.due("mend(0): 6 less 1", x.mend(0), 5);
      Check.due("FLAW", x.of(0, FLAW), 0);
      Check.due("errs()", x.errs(), 0);
      Check.due("proof(9)", x.proof(9), 0);
    }
  }

  @Says("MENDED 1 more (9 at most;")
  static void t1_mendedIs9AtMost() {
    MirrorPlate x = cutOne("", 99, 2, 5);
    for (int times = 1; times <= 9; times++) {
      Check.due("DARK", x.mend(0), 10 - times);
    }
    x.plan(1, 0);
    Check.due("still it prints: 9 of 10 are taken in thought, too", x.done(2), 1);
  }

  @Says("in thought, by PLAN also one of 9 is mended")
  static void t1_oneOf9InThought() {
    MirrorPlate x = cutOne("mend 7", 99, 2, 6);
    for (int times = 1; times <= 9; times++) {
      x.mend(0);
    }
    x.print(999);
    x.plan(1, 0);
    Check.due("mend(0)", x.mend(0), STATE);
    Check.due("MINUTES in thought", x.done(0), 7);
    Check.due("TIRED in thought: 9, nine times 5, and 5", x.done(1), 59);
    Check.due("it prints in thought, WORN being 0: 12 less 9", x.done(2), 1);
    Check.due("and does not now", x.of(0, DARK), 0);
  }

  @Says("WORN 0, TIRED 5 more (99 at most)")
  static void t1_tiredByMending() {
    MirrorPlate x = Scene.tired(90, "");
    x.print(5);
    x.mend(0);
    Check.due("90 and 5", x.told(TIRED), 95);
    Check.due("WORN", x.of(0, WORN), 0);
    x.mend(0);
    Check.due("95 and 5", x.told(TIRED), 99);
    x.mend(0);
    Check.due("99 and 5", x.told(TIRED), 99);
    MirrorPlate y = Scene.tired(94, "");
    y.mend(0);
    Check.due("94 and 5", y.told(TIRED), 99);
    MirrorPlate z = Scene.tired(93, "");
    z.mend(0);
    Check.due("93 and 5", z.told(TIRED), 98);
  }

  @Says("NEEDS by 2 (cut) MINUTES go")
  static void t1_minutesOfGoingOver() {
    MirrorPlate x = cutOne("", 99, 0, 1);
    x.over(0);
    Check.due("3, and 3 by 2", x.told(MINUTE), 3 + 1);
    x.over(0);
    Check.due("and 6 by 2", x.told(MINUTE), 3 + 1 + 3);
    x.over(0);
    Check.due("and 9 by 2", x.told(MINUTE), 3 + 1 + 3 + 4);
  }

  @Says("MINUTES go, WORN becomes 0, DEPTH")
  static void t1_wornBehindGoingOver() {
    MirrorPlate x = cutOne(Scene.ALWAYS, 2, 0, 5);
    x.mend(0);
    x.print(999);
    Check.due("DARK", x.of(0, DARK), 0);
    Check.due("over(0): 6 less 1", x.over(0), 5);
    Check.due("WORN", x.of(0, WORN), 0);
    Check.due("MENDED stays", x.of(0, MENDED), 1);
    MirrorPlate y = cutOne(Scene.ALWAYS, 2, 0, 5);
    Check.due("over(0): 6 less 2", y.over(0), 4);
    Check.due("FLAW stays", y.of(0, FLAW), 3);
  }

  @Says("DEPTH 1 more (9 at most)")
  static void t1_depthIs9AtMost() {
    MirrorPlate x = cutOne("", 99, 0, 7);
    for (int depth : new int[] {8, 9, 9, 9}) {
      Check.due("over(0)", x.over(0), depth);
      Check.due("DEPTH", x.of(0, DEPTH), depth);
    }
  }

  @Says("TIRED 3 more (99 at most)")
  static void t1_tiredByGoingOver() {
    MirrorPlate x = Scene.tired(95, "");
    x.over(0);
    Check.due("95 and 3", x.told(TIRED), 98);
    x.over(0);
    Check.due("98 and 3", x.told(TIRED), 99);
    x.over(0);
    Check.due("99 and 3", x.told(TIRED), 99);
    MirrorPlate y = Scene.tired(96, "");
    y.over(0);
    Check.due("96 and 3", y.told(TIRED), 99);
  }

  @Says("PRINTS, WORN of all that are CUT n more (9999 at most each)")
  static void t1_printsAre9999AtMost() {
    MirrorPlate x = Scene.of("", 0, 0, 0, 9, 0, 0, 0, 9, 0, 0, 0, 9);
    x.cut(0, 99);
    x.print(998);
    x.cut(1, 99);
    for (int i = 0; i < 9; i++) {
      x.print(999);
    }
    Check.due("PRINTS", x.told(PRINTS), 9989);
    x.print(9);
    Check.due("PRINTS 9998", x.told(PRINTS), 9998);
    x.print(1);
    Check.due("PRINTS 9999", x.told(PRINTS), 9999);
    Check.due("WORN 9999", x.of(0, WORN), 9999);
    Check.due("WORN of the other: each by itself", x.of(1, WORN), 9001);
    x.print(999);
    Check.due("PRINTS no more", x.told(PRINTS), 9999);
    Check.due("WORN no more", x.of(0, WORN), 9999);
    Check.due("WORN of the other 10000 less 1", x.of(1, WORN), 9999);
    Check.due("WORN of one that is not cut", x.of(2, WORN), 0);
    x.over(1);
    x.print(5);
    Check.due("WORN from 0 again", x.of(1, WORN), 5);
  }

  @Says("MARK: DEPTH, less w by WEAR (cut)")
  static void t1_darkOfAMark() {
    darkIs(cutOne("wear 7", 99, 0, 2), 0, 2, 6, 2, 7, 1, 13, 1, 14, 0, 999, 0);
    darkIs(cutOne("wear 99", 99, 0, 9), 98, 9, 99, 8, 890, 1, 891, 0);
    darkIs(cutOne("wear 7", 99, 1, 2), 0, 3, 6, 3, 7, 2, 20, 1, 21, 0);
    darkIs(cutOne("wear 7", 99, 3, 2), 0, 2, 6, 2, 7, 1, 13, 1, 14, 0);
  }

  @Says("LETTER: twice DEPTH, less w by WEAR (cut)")
  static void t1_darkOfALetter() {
    darkIs(cutOne("wear 7", 99, 2, 1), 0, 2, 6, 2, 7, 1, 13, 1, 14, 0);
    MirrorPlate x = cutOne("wear 7", 99, 2, 1);
    x.mend(0);
    darkIs(x, 0, 1, 6, 1, 7, 0);
    x.mend(0);
    darkIs(x, 0, 0);
  }

  @Says("HATCH: the half of LINE's (cut toward 0), less 1")
  static void t1_darkOfAHatch() {
    int[] byDepth = {0, 0, 1, 1, 2, 2, 3, 3, 4};
    for (int depth = 1; depth <= 9; depth++) {
      darkIs(cutOne("", 99, 4, depth), 0, byDepth[depth - 1]);
    }
    darkIs(cutOne("wear 1", 99, 4, 3), 0, 1, 1, 0, 4, 0, 5, 0, 6, 0, 7, 0, 999, 0);
    darkIs(cutOne(Scene.ALWAYS, 2, 4, 9), 0, 2, 20, 1, 40, 1, 60, 0);
    darkIs(cutOne(Scene.ALWAYS, 2, 4, 5), 0, 0);
  }

  @Says("if its FLAW is 1, 2 more")
  static void t1_darkOfOneTurned() {
    darkIs(cutOne(Scene.ALWAYS, 99, 5, 9), 0, 18);
    darkIs(cutOne(Scene.ALWAYS, 0, 5, 9), 0, 20);
    darkIs(cutOne(Scene.ALWAYS, 2, 5, 9), 0, 16);
    darkIs(cutOne(Scene.ALWAYS, 0, 2, 9), 0, 18);
  }

  @Says("its ROW at w modulo 4 more")
  static void t1_rowWrapsAround() {
    MirrorPlate x = cutOne("wear 99", 99, 6, 5);
    for (int k = 0; k < 4; k++) {
      x.row(0, k, k + 1);
    }
    darkIs(x, 0, 6, 1, 7, 2, 8, 3, 9, 4, 6, 5, 7, 7, 9, 8, 6);
    x.print(3);
    darkIs(x, 0, 9, 1, 6, 4, 9);
    x.print(1);
    darkIs(x, 0, 6, 3, 9);
  }

  @Says("Each, if its FLAW is 3, 2 less")
  static void t1_tooFaint() {
    int[] none = {9, 10, 18, 9, 4, 18, 9};
    for (int kind = 0; kind <= 6; kind++) {
      Check.due("no FLAW, kind " + kind, cutOne(Scene.ALWAYS, 99, kind, 9).of(0, DARK), none[kind]);
      Check.due("FLAW 3, kind " + kind, cutOne(Scene.ALWAYS, 2, kind, 9).of(0, DARK), none[kind] - 2);
      if (kind != 5) {
        Check.due("FLAW 1, kind " + kind, cutOne(Scene.ALWAYS, 0, kind, 9).of(0, DARK), none[kind]);
        Check.due("FLAW 2, kind " + kind, cutOne(Scene.ALWAYS, 1, kind, 9).of(0, DARK), none[kind]);
      }
    }
  }

  @Says("if its FLAW is 3, 2 less; 0 at least")
  static void t1_darkIs0AtLeast() {
    darkIs(cutOne(Scene.ALWAYS, 2, 0, 3), 0, 1);
    darkIs(cutOne(Scene.ALWAYS, 2, 0, 2), 0, 0);
    darkIs(cutOne(Scene.ALWAYS, 2, 0, 1), 0, 0);
    darkIs(cutOne("wear 1", 99, 0, 1), 0, 1, 1, 0, 2, 0, 999, 0);
    MirrorPlate x = cutOne("", 99, 0, 1);
    Check.due("1 less 1", x.mend(0), 0);
    Check.due("1 less 2", x.mend(0), 0);
    Check.due("mean(0)", x.mean(0, 0), 0);
    MirrorPlate told = cutOne("", 99, 6, 1);
    for (int times = 0; times < 9; times++) {
      told.mend(0);
    }
    told.row(0, 0, 8);
    Check.due("1 less 9, and 8", told.of(0, DARK), 0);
    told.row(0, 0, 9);
    Check.due("1 less 9, and 9", told.of(0, DARK), 1);
  }

  @Says("Not CUT: 0")
  static void t1_notCutIsNotDark() {
    MirrorPlate x = Scene.of("", 0, 0, 0, 9, 1, 0, 0, 9, 2, 0, 0, 9, 3, 0, 0, 9, 4, 0, 0, 9, 5, 0, 0, 9, 6, 0, 0, 9);
    x.row(6, 0, 9);
    for (int mark = 0; mark <= 6; mark++) {
      Check.due("DARK of kind " + x.of(mark, KIND), x.of(mark, DARK), 0);
      Check.due("dark(" + mark + ", 999)", x.dark(mark, 999), 0);
    }
    Check.due("print(0)", x.print(0), 0);
  }

  @Says("It PRINTS, if DARK is above 0")
  static void t1_printsAbove0() {
    MirrorPlate x = Scene.cut(99, "wear 1", 0, 0, 0, 1, 0, 0, 0, 2);
    Check.due("DARK 1, 2", x.print(0), 2);
    Check.due("DARK 0, 1", x.print(1), 1);
    Check.due("good(0)", x.good(0), -5);
    Check.due("good(1)", x.good(1), 0);
    Check.due("DARK 0, 0", x.print(1), 0);
  }
}
