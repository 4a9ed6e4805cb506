/** Edges of Terms, ==== 3: which of several refusals is told, and that they change nothing; NO; the 512 calls. */
final class EdgesOfTerms3 {
  private static final int NONE = MirrorPlate.NONE, BAD = MirrorPlate.BAD, STATE = MirrorPlate.STATE, FULL = MirrorPlate.FULL;
  private static final long NO = MirrorPlate.NO;

  private EdgesOfTerms3() {}

  @Says("of several the first one told")
  static void t3_firstOneTold() {
    MirrorPlate full = Scene.full();
    Check.due("mark: NONE ahead of BAD, FULL", full.mark(7, 10, 100, 10), NONE);
    Check.due("mark: BAD ahead of FULL", full.mark(0, 10, 100, 10), BAD);
    Check.due("see: NONE ahead of BAD, FULL", full.see(8, 31), NONE);
    Check.due("see: BAD ahead of FULL", full.see(0, 31), BAD);
    Check.due("plan: NONE ahead of FULL", full.plan(5, 0), NONE);
    Check.due("plan: NONE of a mark ahead of FULL", full.plan(0, 8), NONE);
    Check.due("book: NONE ahead of BAD, FULL", full.book(8, 1000, 31), NONE);
    Check.due("book: BAD of n ahead of FULL", full.book(0, 1000, 0), BAD);
    Check.due("book: BAD of dark ahead of FULL", full.book(0, 0, 31), BAD);
    Check.due("order: NONE ahead of -9", full.order(6), NONE);
    MirrorPlate x = Scene.busy();
    Check.due("row: NONE of a mark ahead of BAD", x.row(4, 0, 10), NONE);
    Check.due("row: NONE of k ahead of BAD, STATE", x.row(1, 4, 10), NONE);
    Check.due("row: BAD ahead of STATE", x.row(1, 0, 10), BAD);
    Check.due("cut: NONE ahead of BAD", x.cut(4, 100), NONE);
    Check.due("cut: BAD ahead of STATE", x.cut(0, 100), BAD);
    Check.due("dark: NONE ahead of BAD", x.dark(4, 1000), NONE);
    Check.due("as: NONE of a mark, no -6", x.as(4, 2), NONE);
    Check.due("as: NONE of k ahead of -6", x.as(0, 7), NONE);
    Check.due("worth: no such mark, no -1002", x.worth(4), -1001);
    while (x.feed('w') != FULL) {
      Check.holds("a tape ends", x.count(5) <= 100);
    }
    Check.due("feed: BAD ahead of FULL", x.feed(128), BAD);
  }

  @Says("NONE there is no such MARK, KIND, what, part, k, i")
  static void t3_none() {
    MirrorPlate x = Scene.busy();
    for (int mark : Scene.outside(0, Scene.BUSY_MARKS - 1)) {
      Check.due("of(" + mark + ", 0)", x.of(mark, 0), NONE);
    }
    Check.due("mark(7, ..): KIND", x.mark(7, 0, 0, 1), NONE);
    Check.due("told(5): what", x.told(5), NONE);
    Check.due("flaws(2): part, by NO", x.flaws(2), NO);
    Check.due("row(0, 4, 0): k", x.row(0, 4, 0), NONE);
    Check.due("trace(20): i", x.trace(20), NONE);
  }

  @Says("BAD a number is not as told")
  static void t3_bad() {
    MirrorPlate x = Scene.busy();
    Check.due("feed(-1)", x.feed(-1), BAD);
    Check.due("mark(0, -1, 0, 1)", x.mark(0, -1, 0, 1), BAD);
    Check.due("room(0)", x.room(0), BAD);
  }

  @Says("STATE as told")
  static void t3_state() {
    MirrorPlate x = Scene.busy();
    Check.due("row of another KIND", x.row(1, 0, 0), STATE);
    Check.due("cut of one that is CUT", x.cut(0, 0), STATE);
    Check.due("mend of one that is not", x.mend(2), STATE);
    Check.due("undo without an image", new MirrorPlate().undo(), STATE);
  }

  @Says("FULL. They")
  static void t3_full() {
    MirrorPlate x = Scene.full();
    Check.due("mark", x.mark(0, 0, 0, 1), FULL);
    Check.due("see", x.see(0, 0), FULL);
    Check.due("plan", x.plan(0, 0), FULL);
    Check.due("book", x.book(0, 0, 0), FULL);
  }

  private static void refusedWhenFull(MirrorPlate x) {
    x.mark(0, 0, 0, 1);
    x.mark(7, 0, 0, 1);
    x.see(0, 30);
    x.see(-2, 0);
    x.plan(4, 0);
    x.plan(5, 0);
    x.book(0, 0, 30);
    x.book(0, -1, 0);
  }

  private static void refusedWhenBusy(MirrorPlate x) {
    x.feed(128);
    x.mark(7, 0, 0, 1);
    x.mark(0, 0, 0, 10);
    x.row(0, 4, 9);
    x.row(0, 1, 10);
    x.row(1, 1, 9);
    x.cut(2, 100);
    x.cut(0, 0);
    x.rest(61);
    x.mend(2);
    x.over(2);
    x.print(1000);
    x.see(0, 31);
    x.plan(-2, 0);
    x.book(0, 0, 31);
    x.as(0, 7);
    x.trace(-1);
  }

  @Says("They change nothing")
  static void t3_refusalsChangeNothing() {
    MirrorPlate busy = Scene.busy();
    refusedWhenBusy(busy);
    Check.holds("all is as it was", Scene.all(busy).equals(Scene.all(Scene.busy())));
    MirrorPlate full = Scene.full();
    refusedWhenFull(full);
    Check.holds("all is as it was, full", Scene.all(full).equals(Scene.all(Scene.full())));
    MirrorPlate none = new MirrorPlate();
    none.undo();
    none.cut(0, 0);
    Check.holds("all is as it was, nothing", Scene.all(none).equals(Scene.all(new MirrorPlate())));
  }

  @Says("`NO = Long.MIN_VALUE`: There is no such number")
  static void t3_no() {
    Check.due("NO", NO, Long.MIN_VALUE);
    Check.due("mean of none", new MirrorPlate().mean(0, 0), NO);
  }

  @Says("at most 512 calls after it has been made")
  static void w_the512thCall() {
    MirrorPlate x = new MirrorPlate();
    for (int i = 0; i < 8; i++) {
      x.mark(4, 9, i, 9);
    }
    Check.plate(x, "mend 99");
    for (int i = 0; i < 8; i++) {
      x.cut(i, 99);
    }
    // 24 calls so far, with the plate's; 488 are left
    for (int times = 0; times < 9; times++) {
      for (int i = 0; i < 8; i++) {
        x.mend(i);
      }
    }
    for (int call = 97; call <= 511; call++) {
      x.over(call % 8);
    }
    int minute = 8 * 180 + 72 * 99 + 415 * 90;
    Check.due("the 512th call: MINUTE, as late as it gets", x.told(0), minute);
    MirrorPlate y = new MirrorPlate();
    for (int call = 1; call <= 510; call++) {
      y.print(999);
    }
    y.image();
    Check.due("the 512th call: undo()", y.undo(), 0);
    MirrorPlate z = new MirrorPlate();
    z.image();
    for (int call = 2; call <= 510; call += 2) {
      Check.due("a mark, each time undone", z.mark(6, 9, 99, 9), 0);
      z.undo();
    }
    Check.due("the 512th call: mark", z.mark(6, 9, 99, 9), 0);
  }
}
