/** Promises 25 to 29: PROOF, PROOFS, MENDS, WORTH, OVER. */
public final class MendingTest {
  private static final int BAD = MirrorPlate.BAD;

  /** Marks with flaws 1, 3, 2, none, not cut, 1: dark 5, 6, 2, 9, 0, 1. */
  private static MirrorPlate flawed() {
    MirrorPlate x = new MirrorPlate();
    Check.plate(x, "risk 99 d>0");
    x.mark(0, 0, 0, 5);
    x.mark(2, 0, 0, 4);
    x.mark(1, 0, 0, 1);
    x.mark(0, 0, 0, 9);
    x.mark(0, 0, 0, 9);
    x.mark(0, 0, 0, 1);
    x.cut(0, 0);
    x.cut(1, 2);
    x.cut(2, 1);
    x.cut(3, 99);
    x.cut(5, 3);
    return x;
  }

  private static void proof() {
    MirrorPlate x = flawed();
    int[] want = {2, 3, 3, 3, 7, 39, 39, 39, 39, 39};
    for (int e = 0; e <= 9; e++) {
      Check.due("proof(" + e + ")", x.proof(e), want[e]);
    }
    Check.due("proof(-1)", x.proof(-1), BAD);
    Check.due("proof(10)", x.proof(10), BAD);
    Check.due("proofs()", x.proofs(), 5);
    x.print(20);
    Check.due("proofs(): by DARK as it is now", x.proofs(), 6);
    Check.due("proof(5)", x.proof(5), 7);
    x.mend(5);
    Check.due("proofs() behind mending", x.proofs(), 5);
    x.mend(0);
    x.mend(1);
    x.mend(2);
    Check.due("proofs(): no flaws", x.proofs(), 0);
    Check.due("proof(9): no flaws", x.proof(9), 0);
  }

  private static void mends() {
    MirrorPlate x = flawed();
    Check.due("mends(): MENDED takes one", x.mends(), 1 + 2 + 4);
    x.print(500);
    Check.due("mends(): WORN goes", x.mends(), 1 + 2 + 4);
    Check.due("mends() changes nothing", x.of(0, 7) + x.of(0, 10), 0);
    x.mend(0);
    Check.due("mends(): those with a flaw alone", x.mends(), 2 + 4);
    x.over(5);
    Check.due("mends(): DEPTH 2 prints", x.mends(), 2 + 4 + 32);
    Check.due("mends(): no marks", new MirrorPlate().mends(), 0);
    MirrorPlate turned = new MirrorPlate();
    Check.plate(turned, "risk 99 d>0");
    turned.mark(4, 0, 0, 4);
    turned.mark(4, 0, 0, 3);
    turned.mark(2, 0, 0, 1);
    turned.cut(0, 2);
    turned.cut(1, 0);
    turned.cut(2, 2);
    Check.due("too faint to print now", turned.of(0, 10) + turned.of(2, 10), 0);
    Check.due("mends(): the flaw goes: 4 by 2 less 1; 3 by 2 less 1; 2 less 1", turned.mends(), 1 + 4);
  }

  private static void worth() {
    MirrorPlate x = new MirrorPlate();
    x.mark(0, 0, 0, 5);
    x.mark(0, 0, 0, 9);
    Check.due("worth(0): not cut", x.worth(0), -1002);
    Check.due("worth(2)", x.worth(2), -1001);
    Check.due("worth(-1)", x.worth(-1), -1001);
    Check.due("best(): none is cut", x.best(), -5);
    x.cut(0, 99);
    Check.due("worth(0) alone", x.worth(0), 119 - 99);
    x.cut(1, 99);
    Check.due("worth(0)", x.worth(0), 119 - 99);
    Check.due("worth(1): the plate is as good as its weakest", x.worth(1), 0);
    Check.due("best()", x.best(), 0);
    x.print(50);
    Check.due("worth(0) worn", x.worth(0), 119 - 49);
    x.print(450);
    Check.due("good(-1)", x.good(-1), -5);
    Check.due("worth(0): -5 as 0", x.worth(0), 119);
    Check.due("worth(1): DEPTH is 9 at most", x.worth(1), 179);
    Check.due("best(): the greatest", x.best(), 1);
    Check.due("it changes nothing", x.of(0, 3) * 1000 + x.of(0, 6), 5500);
  }

  private static void worthBelowZero() {
    MirrorPlate x = new MirrorPlate();
    x.mark(0, 0, 0, 9);
    x.mark(0, 0, 0, 1);
    x.cut(0, 99);
    x.cut(1, 99);
    x.print(30);
    Check.due("good(-1): the first alone", x.good(-1), 149);
    Check.due("worth(1): it prints again, but not for long", x.worth(1), 39 - 149);
    Check.due("worth(0)", x.worth(0), 179 - 149);
    Check.due("best()", x.best(), 0);
    x.over(0);
    Check.due("worth(0): nothing to gain", x.worth(0), 0);
    Check.due("best(): none above 0", x.best(), -5);
    MirrorPlate faint = new MirrorPlate();
    faint.mark(4, 0, 0, 1);
    faint.cut(0, 99);
    Check.due("worth(0): does not print then either, -5 as 0", faint.worth(0), 0);
    Check.due("best(): not above 0", faint.best(), -5);
  }

  /** By WEAR 1 each print shows. */
  private static void asItIsNow() {
    MirrorPlate x = new MirrorPlate();
    x.mark(0, 0, 0, 2);
    x.mark(0, 0, 0, 6);
    Check.plate(x, "wear 1;risk 99 d>0");
    x.cut(0, 0);
    x.cut(1, 0);
    Check.due("proof(0): DARK now, not behind one more", x.proof(0), 2);
    Check.due("proofs()", x.proofs(), 4);
    Check.due("mends(): DARK 1 then, not behind one more", x.mends(), 3);
    x.print(2);
    Check.due("proof(0) worn", x.proof(0), 0);
    Check.due("good(-1)", x.good(-1), 3);
    Check.due("worth(0): it prints 2 more then, the other 3", x.worth(0), 2 - 3);
    Check.due("worth(1)", x.worth(1), 6 - 3);
    Check.due("best()", x.best(), 1);
    MirrorPlate thin = new MirrorPlate();
    thin.mark(1, 0, 0, 1);
    thin.mark(0, 0, 0, 9);
    Check.plate(thin, "wear 1");
    thin.cut(0, 99);
    thin.cut(1, 99);
    thin.print(1);
    Check.due("good(-1): one more is too many", thin.good(-1), 0);
    Check.due("worth(1): the thin one counts now", thin.worth(1), 0);
    Check.due("worth(0): DARK 3 is good for 2", thin.worth(0), 2);
    thin.print(1);
    Check.due("good(-1): the thick one alone", thin.good(-1), 6);
    MirrorPlate faint = new MirrorPlate();
    faint.mark(4, 0, 0, 3);
    faint.mark(0, 0, 0, 9);
    Check.plate(faint, "wear 2");
    faint.cut(0, 99);
    faint.cut(1, 99);
    faint.print(4);
    Check.due("good(-1): HATCH does not print", faint.good(-1), 13);
    Check.due("worth(0): HATCH of DEPTH 4 prints, good for 3", faint.worth(0), 3 - 13);
  }

  private static void bestOfSeveral() {
    MirrorPlate x = new MirrorPlate();
    x.mark(0, 0, 0, 9);
    x.mark(0, 0, 0, 5);
    x.mark(0, 0, 0, 5);
    x.cut(1, 99);
    x.cut(2, 99);
    Check.due("best(): two that hold each other back", x.best(), -5);
    x.print(100);
    Check.due("worth(1)", x.worth(1), 119);
    Check.due("worth(2)", x.worth(2), 119);
    Check.due("best(): of several the first", x.best(), 1);
    Check.due("best(): no marks", new MirrorPlate().best(), -5);
  }

  public static void main(String[] args) {
    proof();
    mends();
    worth();
    worthBelowZero();
    asItIsNow();
    bestOfSeveral();
    Check.finish();
  }
}
