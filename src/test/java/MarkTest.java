/** Promises 4 to 13: MARKS, the hand, PRINTS, DARK. */
public final class MarkTest {
  private static final int NONE = MirrorPlate.NONE, BAD = MirrorPlate.BAD, STATE = MirrorPlate.STATE, FULL = MirrorPlate.FULL;
  private static final String ALWAYS = "risk 99 d>0";

  private static void marks() {
    MirrorPlate x = new MirrorPlate();
    Check.due("mark(-1, ..)", x.mark(-1, 0, 0, 1), NONE);
    Check.due("mark(7, ..)", x.mark(7, 0, 0, 1), NONE);
    Check.due("a kind ahead of a v", x.mark(7, 10, 0, 1), NONE);
    Check.due("v -1", x.mark(0, -1, 0, 1), BAD);
    Check.due("v 10", x.mark(0, 10, 0, 1), BAD);
    Check.due("place -1", x.mark(0, 0, -1, 1), BAD);
    Check.due("place 100", x.mark(0, 0, 100, 1), BAD);
    Check.due("depth 0", x.mark(0, 0, 0, 0), BAD);
    Check.due("depth 10", x.mark(0, 0, 0, 10), BAD);
    Check.due("most ints", x.mark(0, Integer.MAX_VALUE, Integer.MAX_VALUE, Integer.MAX_VALUE), BAD);
    Check.due("no marks by refusals", x.count(0), 0);
    Check.due("mark(0, 0, 0, 1)", x.mark(0, 0, 0, 1), 0);
    Check.due("mark(6, 9, 99, 9)", x.mark(6, 9, 99, 9), 1);
    for (int i = 2; i < 8; i++) {
      Check.due("mark " + i, x.mark(i - 1, i, i, i), i);
    }
    Check.due("a ninth", x.mark(0, 0, 0, 1), FULL);
    Check.due("NONE ahead of FULL", x.mark(7, 0, 0, 1), NONE);
    Check.due("BAD ahead of FULL", x.mark(0, 0, 0, 0), BAD);
    Check.due("count(0)", x.count(0), 8);
    Check.due("kind of the last", x.of(7, 0), 6);
  }

  private static void whatTheyAre() {
    MirrorPlate x = new MirrorPlate();
    int[] needs = {21, 14, 21 + 3, 21 + 4, 14 * 6, 21 + 6, 21 + 4};
    for (int kind = 0; kind <= 6; kind++) {
      x.mark(kind, kind == 2 ? 3 : kind + 1, 10 * kind, 7);
    }
    for (int kind = 0; kind <= 6; kind++) {
      int[] want = {kind, kind == 2 ? 3 : kind + 1, 10 * kind, 7, 0, 0, 0, 0, 0, kind == 4 ? 14 * 6 : needs[kind], 0};
      for (int what = 0; what < want.length; what++) {
        Check.due("of(" + kind + ", " + what + ")", x.of(kind, what), want[what]);
      }
    }
    Check.due("of(-1, 0)", x.of(-1, 0), NONE);
    Check.due("of(7, 0)", x.of(7, 0), NONE);
    Check.due("of(8, 0)", x.of(8, 0), NONE);
    Check.due("of(0, -1)", x.of(0, -1), NONE);
    Check.due("of(0, 11)", x.of(0, 11), NONE);
    Check.due("of(least, least)", x.of(Integer.MIN_VALUE, Integer.MIN_VALUE), NONE);
    x.mark(4, 0, 0, 9);
    Check.due("NEEDS of HATCH with v 0", x.of(7, 9), 18);
    x.cut(1, 99);
    x.print(30);
    int[] cut = {1, 2, 10, 7, 1, 0, 30, 0, 1, 14, 7};
    for (int what = 0; what < cut.length; what++) {
      Check.due("cut: of(1, " + what + ")", x.of(1, what), cut[what]);
    }
    x.mend(1);
    Check.due("MENDED", x.of(1, 7), 1);
    Check.due("WORN behind mending", x.of(1, 6), 0);
    x.over(1);
    Check.due("DEPTH behind going over", x.of(1, 3), 8);
    Check.due("NEEDS behind going over", x.of(1, 9), 16);
  }

  private static void rows() {
    MirrorPlate x = new MirrorPlate();
    x.mark(6, 0, 0, 5);
    x.mark(3, 0, 0, 5);
    for (int k = 0; k <= 3; k++) {
      Check.due("row(0, " + k + ", " + (k + 6) + ")", x.row(0, k, k + 6), 0);
    }
    for (int k = 0; k <= 3; k++) {
      Check.due("row(0, " + k + ", 0)", x.row(0, k, 0), k + 6);
    }
    Check.due("row(-1, 0, 0)", x.row(-1, 0, 0), NONE);
    Check.due("row(2, 0, 0)", x.row(2, 0, 0), NONE);
    Check.due("row(0, -1, 0)", x.row(0, -1, 0), NONE);
    Check.due("row(0, 4, 0)", x.row(0, 4, 0), NONE);
    Check.due("row(0, 4, 10): NONE ahead of BAD", x.row(0, 4, 10), NONE);
    Check.due("row(1, 4, 0): NONE ahead of STATE", x.row(1, 4, 0), NONE);
    Check.due("row(1, -1, 0): NONE ahead of STATE", x.row(1, -1, 0), NONE);
    Check.due("row(0, -1, 10): NONE ahead of BAD", x.row(0, -1, 10), NONE);
    Check.due("row(0, 0, -1)", x.row(0, 0, -1), BAD);
    Check.due("row(0, 0, 10)", x.row(0, 0, 10), BAD);
    Check.due("row(1, 0, 10): BAD ahead of STATE", x.row(1, 0, 10), BAD);
    Check.due("row(1, 0, 1): another kind", x.row(1, 0, 1), STATE);
    x.row(0, 2, 9);
    Check.due("row(0, 2, 10)", x.row(0, 2, 10), BAD);
    Check.due("row(0, 2, 9): a refusal changed nothing", x.row(0, 2, 9), 9);
  }

  private static void theHand() {
    MirrorPlate x = new MirrorPlate();
    Check.due("told(-1)", x.told(-1), NONE);
    Check.due("told(5)", x.told(5), NONE);
    x.mark(0, 0, 0, 5);
    Check.plate(x, "mend 3;wear 4");
    x.cut(0, 99);
    x.print(7);
    int[] cut = {15, 7, 7, 4, 3};
    for (int what = 0; what < cut.length; what++) {
      Check.due("cut: told(" + what + ")", x.told(what), cut[what]);
    }
    x.mend(0);
    Check.due("mending: MINUTE", x.told(0), 18);
    Check.due("mending: TIRED", x.told(2), 12);
    x.over(0);
    Check.due("going over: MINUTE", x.told(0), 25);
    Check.due("going over: TIRED", x.told(2), 15);
    Check.due("going over: NEEDS by 2 of the depth ahead of it", x.of(0, 9), 18);
    Check.due("rest(3)", x.rest(3), 9);
    Check.due("rest: MINUTE", x.told(0), 28);
    Check.due("PRINTS stay", x.told(1), 7);
  }

  private static int flaw(int kind, int d, String clauses) {
    MirrorPlate x = new MirrorPlate();
    x.mark(kind, 0, 0, 5);
    Check.plate(x, clauses);
    int flaw = x.cut(0, d);
    Check.due("of(0, 5) behind cut", x.of(0, 5), flaw);
    Check.due("of(0, 4) behind cut", x.of(0, 4), 1);
    return flaw;
  }

  private static void cutting() {
    int[] others = {1, 2, 3};
    int[] turned = {1, 1, 3};
    for (int kind = 0; kind <= 6; kind++) {
      for (int d = 0; d < 9; d++) {
        Check.due("cut(0, " + d + ") of kind " + kind, flaw(kind, d, ALWAYS), (kind == 5 ? turned : others)[d % 3]);
      }
      Check.due("the draw 98", flaw(kind, 98, ALWAYS), 3);
      Check.due("the draw 99: RISK is 99 at most", flaw(kind, 99, ALWAYS), 0);
      Check.due("the draw RISK", flaw(kind, 30, "risk 30 m=0"), 0);
      Check.due("the draw below RISK", flaw(kind, 29, "risk 30 m=0"), 3);
      Check.due("no RISK", flaw(kind, 0, "wear 1"), 0);
    }
    MirrorPlate x = new MirrorPlate();
    x.mark(4, 9, 0, 9);
    x.mark(0, 0, 0, 1);
    x.mark(0, 0, 0, 9);
    Check.due("cut(-1, 0)", x.cut(-1, 0), NONE);
    Check.due("cut(3, 100): NONE ahead of BAD", x.cut(3, 100), NONE);
    Check.due("cut(0, -1)", x.cut(0, -1), BAD);
    Check.due("cut(0, 100)", x.cut(0, 100), BAD);
    Check.due("nothing is cut by refusals", x.of(0, 4) + x.told(0) + x.told(2), 0);
    Check.due("RISK by TIRED ahead of it", x.cut(0, 0), 0);
    Check.due("MINUTE", x.told(0), 180);
    Check.due("TIRED", x.told(2), 90);
    Check.due("RISK by TIRED alone", x.of(1, 8), 18);
    Check.due("cut(0, 0) again", x.cut(0, 0), STATE);
    Check.due("cut(0, 100) again: BAD ahead of STATE", x.cut(0, 100), BAD);
    Check.due("cut(1, 17)", x.cut(1, 17), 3);
    Check.due("the half of NEEDS is cut: 3 by 2 is 1", x.told(2), 91);
    x.cut(2, 99);
    Check.due("TIRED is 99 at most", x.told(2), 99);
    Check.due("MINUTE goes on", x.told(0), 180 + 3 + 27);
    x.print(5);
    Check.due("a flaw stays", x.of(1, 5), 3);
  }

  private static void resting() {
    MirrorPlate x = new MirrorPlate();
    x.mark(4, 9, 0, 9);
    x.cut(0, 99);
    Check.due("rest(-1)", x.rest(-1), BAD);
    Check.due("rest(61)", x.rest(61), BAD);
    Check.due("rest(0)", x.rest(0), 90);
    Check.due("rest(1)", x.rest(1), 88);
    Check.due("rest(44)", x.rest(44), 0);
    Check.due("MINUTE", x.told(0), 180 + 45);
    Check.due("rest(60)", x.rest(60), 0);
    Check.due("MINUTE goes though TIRED is 0", x.told(0), 180 + 105);
  }

  private static void mending() {
    MirrorPlate x = new MirrorPlate();
    x.mark(2, 0, 0, 9);
    x.mark(0, 0, 0, 1);
    Check.plate(x, ALWAYS);
    Check.due("mend(0): not cut", x.mend(0), STATE);
    Check.due("mend(-1)", x.mend(-1), NONE);
    Check.due("mend(2)", x.mend(2), NONE);
    x.cut(0, 2);
    Check.due("too faint", x.dark(0, 0), 16);
    x.print(40);
    Check.due("worn", x.dark(0, 0), 14);
    for (int times = 1; times <= 9; times++) {
      Check.due("mend(0), the " + times + "th", x.mend(0), 18 - times);
      Check.due("MENDED", x.of(0, 7), times);
      Check.due("FLAW", x.of(0, 5), 0);
      Check.due("WORN", x.of(0, 6), 0);
      Check.due("MINUTE", x.told(0), 27 + 8 * times);
      Check.due("TIRED", x.told(2), 13 + 5 * times);
    }
    Check.due("mend(0), the tenth", x.mend(0), STATE);
    Check.due("a refusal takes no MINUTES", x.told(0), 27 + 72);
    x.cut(1, 99);
    for (int times = 1; times <= 9; times++) {
      Check.due("DARK is 0 at least", x.mend(1), 0);
    }
    Check.due("TIRED is 99 at most", x.told(2), 99);
  }

  private static void goingOver() {
    MirrorPlate x = new MirrorPlate();
    x.mark(2, 4, 0, 7);
    Check.plate(x, ALWAYS);
    Check.due("over(0): not cut", x.over(0), STATE);
    Check.due("over(-1)", x.over(-1), NONE);
    Check.due("over(1)", x.over(1), NONE);
    x.cut(0, 2);
    x.print(100);
    Check.due("over(0)", x.over(0), 16 - 2);
    Check.due("MINUTE: 25, and 25 by 2", x.told(0), 25 + 12);
    Check.due("TIRED: 12 and 3", x.told(2), 15);
    Check.due("FLAW stays", x.of(0, 5), 3);
    Check.due("WORN", x.of(0, 6), 0);
    Check.due("over(0) again", x.over(0), 18 - 2);
    Check.due("MINUTE: 28 by 2", x.told(0), 37 + 14);
    x.mend(0);
    Check.due("over(0), DEPTH is 9 at most", x.over(0), 18 - 1);
    Check.due("DEPTH", x.of(0, 3), 9);
    Check.due("MENDED stays", x.of(0, 7), 1);
    for (int times = 0; times < 30; times++) {
      x.over(0);
    }
    Check.due("TIRED is 99 at most", x.told(2), 99);
  }

  /** By WEAR 1 each print shows. */
  private static void darkThen() {
    MirrorPlate x = new MirrorPlate();
    x.mark(6, 0, 0, 5);
    Check.plate(x, "wear 1");
    x.row(0, 0, 1);
    x.row(0, 1, 4);
    x.row(0, 3, 8);
    x.cut(0, 99);
    Check.due("mend(0): DARK then", x.mend(0), 5 + 1 - 1);
    Check.due("over(0): DARK then", x.over(0), 6 + 1 - 1);
    Check.due("dark(0, 1)", x.dark(0, 1), 6 + 4 - 1 - 1);
    Check.due("print(8)", x.print(8), 0);
    Check.due("print(1)", x.print(1), 0);
    Check.due("print(2): it comes back", x.print(2), 1);
    Check.due("of(0, 10)", x.of(0, 10), 6 + 8 - 1 - 11);
  }

  private static void printing() {
    MirrorPlate x = new MirrorPlate();
    x.mark(0, 0, 0, 2);
    x.mark(1, 0, 0, 2);
    x.mark(0, 0, 0, 9);
    Check.due("print(-1)", x.print(-1), BAD);
    Check.due("print(1000)", x.print(1000), BAD);
    Check.due("print(10), none is cut", x.print(10), 0);
    x.cut(0, 99);
    x.cut(1, 99);
    Check.due("print(0)", x.print(0), 2);
    Check.due("print(39)", x.print(39), 2);
    Check.due("print(1)", x.print(1), 1);
    Check.due("print(20)", x.print(20), 0);
    Check.due("PRINTS", x.told(1), 70);
    Check.due("WORN of those that were cut", x.of(0, 6), 60);
    Check.due("WORN of one that is not cut", x.of(2, 6), 0);
    x.cut(2, 99);
    Check.due("WORN of one cut now", x.of(2, 6), 0);
    Check.due("print(999)", x.print(999), 0);
    for (int times = 0; times < 10; times++) {
      x.print(999);
    }
    Check.due("PRINTS are 9999 at most", x.told(1), 9999);
    Check.due("WORN is 9999 at most", x.of(2, 6), 9999);
    x.print(5);
    Check.due("PRINTS stay 9999", x.told(1), 9999);
    x.over(0);
    x.print(5);
    Check.due("WORN goes on from 0", x.of(0, 6), 5);
  }

  private static MirrorPlate cutOne(int kind, int depth, int d, String clauses) {
    MirrorPlate x = new MirrorPlate();
    x.mark(kind, 3, 0, depth);
    Check.plate(x, clauses);
    x.cut(0, d);
    return x;
  }

  private static void darkIs(String who, MirrorPlate x, int... nAndDark) {
    for (int i = 0; i < nAndDark.length; i += 2) {
      Check.due(who + ": dark(0, " + nAndDark[i] + ")", x.dark(0, nAndDark[i]), nAndDark[i + 1]);
    }
    Check.due(who + ": of(0, 10)", x.of(0, 10), x.dark(0, 0));
  }

  private static void darkness() {
    darkIs("MARK", cutOne(0, 5, 99, ALWAYS), 0, 5, 19, 5, 20, 4, 99, 1, 100, 0, 999, 0);
    darkIs("MARK, turned", cutOne(0, 5, 0, ALWAYS), 0, 5, 20, 4);
    darkIs("MARK, run on", cutOne(0, 5, 1, ALWAYS), 0, 5, 20, 4);
    darkIs("MARK, too faint", cutOne(0, 5, 2, ALWAYS), 0, 3, 20, 2, 60, 0, 80, 0);
    darkIs("MARK by WEAR 1", cutOne(0, 5, 99, "wear 0"), 0, 5, 1, 4, 4, 1, 5, 0);
    darkIs("LINE", cutOne(1, 5, 99, ALWAYS), 0, 6, 20, 5, 119, 1, 120, 0);
    darkIs("LINE, too faint", cutOne(1, 5, 2, ALWAYS), 0, 4, 79, 1, 80, 0);
    darkIs("LETTER", cutOne(2, 5, 99, ALWAYS), 0, 10, 20, 9, 199, 1, 200, 0);
    darkIs("LETTER, turned", cutOne(2, 5, 0, ALWAYS), 0, 10);
    darkIs("LETTER, too faint", cutOne(2, 5, 2, ALWAYS), 0, 8);
    darkIs("NUMBER", cutOne(3, 5, 99, ALWAYS), 0, 5, 99, 1, 100, 0);
    darkIs("HATCH", cutOne(4, 9, 99, ALWAYS), 0, 4, 20, 3, 40, 3, 60, 2, 80, 2, 100, 1, 120, 1, 140, 0, 200, 0, 999, 0);
    darkIs("HATCH, too faint", cutOne(4, 9, 2, ALWAYS), 0, 2, 20, 1, 60, 0);
    darkIs("TURNED", cutOne(5, 5, 99, ALWAYS), 0, 10, 199, 1, 200, 0);
    darkIs("TURNED, turned", cutOne(5, 5, 0, ALWAYS), 0, 12, 20, 11, 239, 1, 240, 0);
    darkIs("TURNED, too faint", cutOne(5, 5, 2, ALWAYS), 0, 8);
    MirrorPlate told = cutOne(6, 5, 99, ALWAYS);
    int[] row = {1, 0, 3, 9};
    for (int k = 0; k < 4; k++) {
      told.row(0, k, row[k]);
    }
    darkIs("TOLD", told, 0, 6, 1, 5, 2, 8, 3, 14, 4, 6, 22, 7, 101, 0, 102, 3, 103, 9, 239, 3, 259, 2, 279, 1, 299, 0);
    told.print(3);
    darkIs("TOLD, worn by 3", told, 0, 14, 1, 6, 2, 5, 3, 8, 100, 9);
    told.mend(0);
    darkIs("TOLD, mended", told, 0, 5, 3, 13, 4, 5);
  }

  private static void darknessRefused() {
    MirrorPlate x = cutOne(0, 5, 99, ALWAYS);
    x.mark(0, 0, 0, 9);
    Check.due("dark(-1, 0)", x.dark(-1, 0), NONE);
    Check.due("dark(2, 0)", x.dark(2, 0), NONE);
    Check.due("dark(2, -1): NONE ahead of BAD", x.dark(2, -1), NONE);
    Check.due("dark(0, -1)", x.dark(0, -1), BAD);
    Check.due("dark(0, 1000)", x.dark(0, 1000), BAD);
    Check.due("dark(1, 0): not cut", x.dark(1, 0), 0);
    x.print(40);
    Check.due("dark goes on from WORN", x.dark(0, 20), 2);
    Check.due("and changes nothing", x.dark(0, 0), 3);
    Check.plate(x, "wear 40");
    Check.due("WEAR of the newest plate", x.dark(0, 0), 4);
  }

  /** No 512 calls get there, so this is about the words of the document alone. */
  private static void theLastMinute() {
    MirrorPlate x = new MirrorPlate();
    x.mark(4, 9, 0, 9);
    x.mark(0, 0, 0, 1);
    x.mark(0, 0, 0, 1);
    x.cut(0, 99);
    for (int i = 0; i < 1098; i++) {
      x.over(0);
    }
    Check.due("MINUTE", x.told(0), 99000);
    Check.plate(x, "mend 0");
    Check.due("rest(0) at MINUTE 99000", x.rest(0), 99);
    Check.due("mend(0) at MINUTE 99000", x.mend(0), 3);
    x.image();
    Check.due("cut(1, 99) at MINUTE 99000", x.cut(1, 99), 0);
    Check.due("cut(2, 99) at MINUTE 99003", x.cut(2, 99), STATE);
    x.undo();
    Check.due("rest(1) at MINUTE 99000", x.rest(1), 97);
    Check.due("rest(1) at MINUTE 99001", x.rest(1), STATE);
    Check.due("mend(0) at MINUTE 99001", x.mend(0), STATE);
    Check.due("over(0) at MINUTE 99001", x.over(0), STATE);
    x.undo();
    Check.due("over(0) at MINUTE 99000", x.over(0), 3);
    Check.due("MINUTE above", x.told(0), 99090);
    Check.due("over(0) above", x.over(0), STATE);
    Check.due("mend(0) above", x.mend(0), STATE);
    Check.due("cut(1, 0) above", x.cut(1, 0), STATE);
    Check.due("rest(1) above", x.rest(1), STATE);
    Check.due("rest(61) above: BAD ahead of STATE", x.rest(61), BAD);
    Check.due("MINUTE stays", x.told(0), 99090);
    x.plan(2, 0);
    Check.due("in thought it goes on", x.done(0), 90);
  }

  public static void main(String[] args) {
    marks();
    whatTheyAre();
    rows();
    theHand();
    cutting();
    resting();
    mending();
    goingOver();
    darkThen();
    printing();
    darkness();
    darknessRefused();
    theLastMinute();
    Check.finish();
  }
}
