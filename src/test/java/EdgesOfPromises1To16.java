/** Edges of the promises 1 to 16: plates, marks, prints. */
final class EdgesOfPromises1To16 {
  private static final int NONE = MirrorPlate.NONE, BAD = MirrorPlate.BAD, STATE = MirrorPlate.STATE, FULL = MirrorPlate.FULL;
  private static final int[] NO_MARK = Scene.outside(0, Scene.BUSY_MARKS - 1);

  private EdgesOfPromises1To16() {}

  @Says("No MARKS")
  static void p01_noMarks() {
    MirrorPlate x = new MirrorPlate();
    Check.due("count(0)", x.count(0), 0);
    for (int mark : new int[] {-1, 0, 7, 8}) {
      Check.due("of(" + mark + ", 0)", x.of(mark, 0), NONE);
    }
    Check.due("the first one's number", x.mark(0, 0, 0, 1), 0);
    Check.due("count(0) of another", new MirrorPlate().count(0), 0);
  }

  @Says("no PLATE")
  static void p01_noPlate() {
    MirrorPlate x = new MirrorPlate();
    for (int what = 1; what <= 6; what++) {
      Check.due("count(" + what + ")", x.count(what), 0);
    }
    Check.due("WEAR", x.told(3), 20);
    Check.due("MEND", x.told(4), 8);
    Check.due("the first one's number", Check.plate(x, "wear 1"), 0);
  }

  @Says("A sign (0 .. 127) comes")
  static void p02_signs() {
    MirrorPlate x = new MirrorPlate();
    Check.due("feed(0)", x.feed(0), 1);
    Check.due("feed(127)", x.feed(127), 2);
    Check.due("plate()", x.plate(), -10);
  }

  @Says("BAD;")
  static void p02_bad() {
    Scene.refuses("feed(n)", Scene.outside(0, 127), (x, n) -> x.feed(n), BAD);
  }

  @Says("FULL.")
  static void p02_full() {
    Scene.leaves(EdgesOfPromises1To16::fullTape, "feed(49)", x -> x.feed(49), FULL);
  }

  /** A tape of 100, a PLATE but for a 101st sign. */
  private static MirrorPlate fullTape() {
    MirrorPlate x = Scene.of("", 0, 0, 0, 1);
    Check.feed(x, "risk 15 d>0");
    for (int i = 0; i < 21; i++) {
      Check.feed(x, "&d>0");
    }
    Check.feed(x, "&d<9 "); // a blank at the end is a fault at 99
    Check.due("count(5)", x.count(5), 100);
    return x;
  }

  @Says("THE TAPE, which is empty then")
  static void p03_emptyThen() {
    MirrorPlate x = new MirrorPlate();
    Check.due("plate()", Check.plate(x, "wear 9"), 0);
    Check.due("count(5)", x.count(5), 0);
    Check.due("plate() of the empty tape", x.plate(), -10);
    Check.due("feed", x.feed('w'), 1);
  }

  @Says("(by a FAULT, too)")
  static void p03_emptyByAFault() {
    MirrorPlate x = new MirrorPlate();
    Check.due("plate()", Check.plate(x, "wear ?"), -15);
    Check.due("count(5)", x.count(5), 0);
    Check.due("plate() again", Check.plate(x, "9"), -10);
    Check.due("plate() of a whole one", Check.plate(x, "wear 9"), 0);
    Check.due("WEAR", x.told(3), 9);
  }

  @Says("is a PLATE, and holds: its number")
  static void p03_holds() {
    MirrorPlate x = new MirrorPlate();
    for (int i = 0; i < 5; i++) {
      Check.due("plate()", Check.plate(x, "mend " + (i + 20)), i);
      Check.due("MEND", x.told(4), i + 20);
    }
  }

  @Says("-10 less the FAULT")
  static void p03_fault() {
    Check.due("FAULT 0", new MirrorPlate().plate(), -10);
    Check.due("FAULT 0", Check.plate(new MirrorPlate(), "?wear 1"), -10);
    Check.due("FAULT 1", Check.plate(new MirrorPlate(), "w?ar 1"), -11);
    MirrorPlate x = Scene.of("");
    Check.feed(x, "risk 5 d>0");
    for (int i = 0; i < 22; i++) {
      Check.feed(x, "&d>0");
    }
    x.feed('&');
    x.feed('v');
    Check.due("FAULT 100", x.plate(), -110);
    MirrorPlate y = fullTape();
    Check.due("FAULT 99", y.plate(), -109);
  }

  @Says("(the one that held holds)")
  static void p03_heldStillHolds() {
    MirrorPlate x = Scene.of("wear 5;mend 6;risk 7 m=0", 0, 0, 0, 1);
    Check.due("a fault", Check.plate(x, "wear 9;mend 9;risk 9 m=0;"), -10 - 25);
    Check.due("WEAR", x.told(3), 5);
    Check.due("MEND", x.told(4), 6);
    Check.due("RISK", x.of(0, 8), 7);
    Check.due("count(1)", x.count(1), 1);
    Check.due("a fault in its second E", Check.plate(x, "risk 9 m=0;risk 8 m=0&d=1|v=0&;"), -10 - 30);
    Check.due("RISK", x.of(0, 8), 7);
    Check.due("the next one's number", Check.plate(x, "sure 1 m=1;risk 3 v=0"), 1);
    Check.due("RISK by it alone", x.of(0, 8), 3);
    Check.due("WEAR by it alone", x.told(3), 20);
    Check.due("MEND by it alone", x.told(4), 8);
  }

  @Says("the FAULT (the one that held holds)")
  static void p03_manyFaults() {
    MirrorPlate x = Scene.of("", 0, 0, 0, 1);
    String tape = "wear 9;mend 9;risk 50 d>0;risk 9 d>0&d>0&d>0&d>0&d>0&d>0&d>0&d>0&d>0&d>0&d>0&d>0&d>0;";
    for (int times = 0; times < 4; times++) {
      Check.due("a fault at its end", Check.plate(x, tape), -10 - tape.length());
    }
    Check.due("RISK", x.of(0, 8), 0);
    Check.due("WEAR", x.told(3), 20);
    Check.due("plate()", Check.plate(x, "risk 8 m=1|m=2;risk 7 m=0&(v=0|m=3)"), 0);
    Check.due("RISK by that plate alone", x.of(0, 8), 7);
    Check.due("WEAR by that plate alone", x.told(3), 20);
    Check.due("MEND by that plate alone", x.told(4), 8);
  }

  private static MirrorPlate fivePlates(String tape) {
    MirrorPlate x = Scene.of("", 0, 0, 0, 1);
    for (int i = 0; i < 5; i++) {
      Check.plate(x, "wear 5;risk 7 m=0");
    }
    Check.feed(x, tape);
    return x;
  }

  @Says("FULL (ahead of all")
  static void p03_fullAheadOfAll() {
    for (String tape : new String[] {"", "wear 9", "wear ", "?"}) {
      Scene.leaves(() -> fivePlates(tape), "plate() of '" + tape + "'", MirrorPlate::plate, FULL);
    }
  }

  @Says("THE TAPE stays")
  static void p03_tapeStays() {
    MirrorPlate x = fivePlates("wear 9");
    Check.due("plate()", x.plate(), FULL);
    Check.due("count(5)", x.count(5), 6);
    Check.due("feed", x.feed('9'), 7);
    Check.due("WEAR", x.told(3), 5);
  }

  @Says("NONE: kind")
  static void p04_noKind() {
    Scene.refuses("mark(n, 0, 0, 1)", Scene.outside(0, 6), (x, n) -> x.mark(n, 0, 0, 1), NONE);
    MirrorPlate x = new MirrorPlate();
    for (int kind = 0; kind <= 6; kind++) {
      Check.due("mark(" + kind + ", ..)", x.mark(kind, 0, 0, 1), kind);
      Check.due("its KIND", x.of(kind, 0), kind);
    }
  }

  @Says("BAD: v")
  static void p04_badV() {
    Scene.refuses("mark(0, n, 0, 1)", Scene.outside(0, 9), (x, n) -> x.mark(0, n, 0, 1), BAD);
  }

  @Says("BAD: v, place")
  static void p04_badPlace() {
    Scene.refuses("mark(0, 0, n, 1)", Scene.outside(0, 99), (x, n) -> x.mark(0, 0, n, 1), BAD);
  }

  @Says("BAD: v, place, depth")
  static void p04_badDepth() {
    Scene.refuses("mark(0, 0, 0, n)", Scene.outside(1, 9), (x, n) -> x.mark(0, 0, 0, n), BAD);
  }

  @Says("FULL: 8")
  static void p04_full() {
    Scene.leaves(Scene::full, "mark(0, 0, 0, 1)", x -> x.mark(0, 0, 0, 1), FULL);
    MirrorPlate x = Scene.at(1, 2, 3, 4, 5, 6, 7);
    Check.due("mark, the 8th", x.mark(0, 0, 0, 1), 7);
  }

  @Says("4 whether it is CUT (1, 0)")
  static void p05_isCut() {
    MirrorPlate x = Scene.of("", 0, 0, 0, 1);
    Check.due("of(0, 4)", x.of(0, 4), 0);
    x.cut(0, 99);
    Check.due("of(0, 4), cut", x.of(0, 4), 1);
  }

  @Says("10 DARK. NONE")
  static void p05_none() {
    for (int what = 0; what <= 10; what++) {
      int asked = what;
      Scene.refuses("of(n, " + what + ")", NO_MARK, (x, n) -> x.of(n, asked), NONE);
    }
    Scene.refuses("of(0, n)", Scene.outside(0, 10), (x, n) -> x.of(0, n), NONE);
    Check.due("of(0, 10)", Scene.cut(99, "", 0, 0, 0, 4).of(0, 10), 4);
  }

  @Says("n (0 .. 9) for k")
  static void p06_numbers() {
    MirrorPlate x = Scene.of("", 6, 0, 0, 1);
    Check.due("row(0, 0, 9)", x.row(0, 0, 9), 0);
    Check.due("row(0, 0, 0)", x.row(0, 0, 0), 9);
  }

  @Says("for k (0 .. 3): what it was")
  static void p06_places() {
    MirrorPlate x = Scene.of("", 6, 0, 0, 1);
    for (int k = 0; k <= 3; k++) {
      Check.due("row(0, " + k + ", ..)", x.row(0, k, k + 3), 0);
    }
    for (int k = 0; k <= 3; k++) {
      Check.due("row(0, " + k + ", ..) again", x.row(0, k, 0), k + 3);
    }
  }

  @Says("NONE: mark")
  static void p06_noMark() {
    Scene.refuses("row(n, 0, 1)", NO_MARK, (x, n) -> x.row(n, 0, 1), NONE);
  }

  @Says("NONE: mark, k")
  static void p06_noK() {
    Scene.refuses("row(0, n, 1)", Scene.outside(0, 3), (x, n) -> x.row(0, n, 1), NONE);
  }

  @Says("BAD;")
  static void p06_bad() {
    Scene.refuses("row(3, 2, n)", Scene.outside(0, 9), (x, n) -> x.row(3, 2, n), BAD);
  }

  @Says("STATE: another KIND")
  static void p06_anotherKind() {
    for (int kind = 0; kind <= 5; kind++) {
      int other = kind;
      Scene.leaves(() -> Scene.of("", other, 0, 0, 1), "row(0, 0, 1) of kind " + kind, x -> x.row(0, 0, 1), STATE);
    }
  }

  @Says("NONE")
  static void p07_none() {
    Scene.refuses("told(n)", Scene.outside(0, 4), (x, n) -> x.told(n), NONE);
  }

  @Says("NONE;")
  static void p08_noMark() {
    Scene.refuses("cut(n, 0)", NO_MARK, (x, n) -> x.cut(n, 0), NONE);
  }

  @Says("BAD: d")
  static void p08_badDraw() {
    Scene.refuses("cut(2, n)", Scene.outside(0, 99), (x, n) -> x.cut(2, n), BAD);
  }

  @Says("STATE: it is CUT")
  static void p08_isCut() {
    Scene.leaves("cut(0, 0)", x -> x.cut(0, 0), STATE);
    Scene.leaves("cut(1, 99)", x -> x.cut(1, 99), STATE);
  }

  /** MINUTE is 98997, and a mark that is not cut takes 3 minutes. Over a thousand calls, as in Scene.late(). */
  private static MirrorPlate soonLate() {
    MirrorPlate x = Scene.cut(99, "mend 0", 4, 9, 0, 9);
    x.mark(0, 0, 50, 1);
    x.mark(0, 0, 60, 1);
    for (int i = 0; i < 1097; i++) {
      x.over(0);
    }
    x.rest(60);
    x.rest(27);
    Check.due("MINUTE", x.told(0), 98997);
    return x;
  }

  @Says("or MINUTE is above 99000")
  static void p08_late() {
    Scene.leaves(Scene::late, "cut(1, 0)", x -> x.cut(1, 0), STATE);
    MirrorPlate x = soonLate();
    x.rest(3);
    Check.due("cut(1, 0) at 99000", x.cut(1, 0), 0);
    Check.due("cut(2, 0) at 99003", x.cut(2, 0), STATE);
    Check.due("cut(2, 100) at 99003", x.cut(2, 100), BAD);
  }

  @Says("n MINUTES (0 .. 60)")
  static void p09_minutes() {
    MirrorPlate x = Scene.tired(99, "");
    int minute = x.told(0);
    Check.due("rest(0)", x.rest(0), 99);
    Check.due("MINUTE", x.told(0), minute);
    Check.due("rest(60)", x.rest(60), 0);
    Check.due("MINUTE", x.told(0), minute + 60);
  }

  @Says("BAD;")
  static void p09_bad() {
    Scene.refuses("rest(n)", Scene.outside(0, 60), (x, n) -> x.rest(n), BAD);
  }

  @Says("STATE: MINUTE is above 99000")
  static void p09_late() {
    Scene.leaves(Scene::late, "rest(0)", x -> x.rest(0), STATE);
    Scene.leaves(Scene::late, "rest(60)", x -> x.rest(60), STATE);
    MirrorPlate x = soonLate();
    x.rest(3);
    Check.due("rest(0) at 99000", x.rest(0), 0);
    Check.due("rest(1) at 99000", x.rest(1), 0);
    Check.due("rest(0) at 99001", x.rest(0), STATE);
  }

  @Says("NONE;")
  static void p10_noMark() {
    Scene.refuses("mend(n)", NO_MARK, (x, n) -> x.mend(n), NONE);
  }

  @Says("STATE: it is not CUT")
  static void p10_notCut() {
    Scene.leaves("mend(2)", x -> x.mend(2), STATE);
    Scene.leaves("mend(3)", x -> x.mend(3), STATE);
  }

  private static MirrorPlate mendedNineTimes() {
    MirrorPlate x = Scene.cut(99, "", 2, 0, 0, 9);
    for (int times = 1; times <= 9; times++) {
      Check.due("mend(0), the " + times + "th", x.mend(0), 18 - times);
    }
    x.print(7);
    return x;
  }

  @Says("MENDING: DARK then")
  static void p10_darkThen() {
    MirrorPlate x = Scene.cut(2, "wear 1;risk 99 d>0", 0, 0, 0, 9);
    x.print(3);
    Check.due("DARK: 9 less 2 less 3", x.of(0, 10), 4);
    Check.due("mend(0): 9 less 1, not worn yet", x.mend(0), 8);
    Check.due("mend(0) of DARK 1", Scene.cut(2, Scene.ALWAYS, 0, 0, 0, 1).mend(0), 0);
  }

  @Says("MENDED is 9")
  static void p10_mendedNineTimes() {
    Scene.leaves(EdgesOfPromises1To16::mendedNineTimes, "mend(0)", x -> x.mend(0), STATE);
  }

  @Says("or MINUTE is above 99000")
  static void p10_late() {
    Scene.leaves(Scene::late, "mend(0)", x -> x.mend(0), STATE);
    MirrorPlate x = soonLate();
    x.rest(3);
    Check.due("mend(0) at 99000", x.mend(0), 3);
    x.rest(1);
    Check.due("mend(0) at 99001", x.mend(0), STATE);
  }

  @Says("NONE;")
  static void p11_noMark() {
    Scene.refuses("over(n)", NO_MARK, (x, n) -> x.over(n), NONE);
  }

  @Says("STATE: it is not CUT")
  static void p11_notCut() {
    Scene.leaves("over(2)", x -> x.over(2), STATE);
    Scene.leaves("over(3)", x -> x.over(3), STATE);
  }

  @Says("or MINUTE is above 99000")
  static void p11_late() {
    Scene.leaves(Scene::late, "over(0)", x -> x.over(0), STATE);
    MirrorPlate x = soonLate();
    x.rest(3);
    Check.due("over(0) at 99000", x.over(0), 4);
    Check.due("over(0) at 99090", x.over(0), STATE);
  }

  @Says("GOING OVER: DARK then")
  static void p11_darkThen() {
    MirrorPlate x = Scene.cut(2, "wear 1;risk 99 d>0", 0, 0, 0, 8);
    x.print(3);
    Check.due("DARK: 8 less 2 less 3", x.of(0, 10), 3);
    Check.due("over(0): 9 less 2, not worn yet", x.over(0), 7);
    Check.due("over(0) of DEPTH 9", x.over(0), 7);
  }

  @Says("n PRINTS (0 .. 999) are taken")
  static void p12_prints() {
    MirrorPlate x = Scene.cut(99, "wear 99", 2, 0, 0, 9);
    Check.due("print(0)", x.print(0), 1);
    Check.due("PRINTS", x.told(1), 0);
    Check.due("print(999)", x.print(999), 1);
    Check.due("PRINTS", x.told(1), 999);
    Check.due("WORN", x.of(0, 6), 999);
    Check.due("print(0), no marks", new MirrorPlate().print(0), 0);
    Check.due("print(999), none is cut", Scene.full().print(999), 0);
  }

  @Says("BAD")
  static void p12_bad() {
    Scene.refuses("print(n)", Scene.outside(0, 999), (x, n) -> x.print(n), BAD);
  }

  @Says("n PRINTS (0 .. 999) more")
  static void p13_prints() {
    MirrorPlate x = Scene.cut(99, "wear 99", 2, 0, 0, 9);
    Check.due("dark(0, 0)", x.dark(0, 0), 18);
    Check.due("dark(0, 999)", x.dark(0, 999), 8);
    Scene.leaves("dark(0, 0)", y -> y.dark(0, 0), Scene.busy().of(0, 10));
  }

  @Says("NONE;")
  static void p13_noMark() {
    Scene.refuses("dark(n, 0)", NO_MARK, (x, n) -> x.dark(n, 0), NONE);
  }

  @Says("BAD")
  static void p13_bad() {
    Scene.refuses("dark(0, n)", Scene.outside(0, 999), (x, n) -> x.dark(0, n), BAD);
    Scene.refuses("dark(2, n), not cut", Scene.outside(0, 999), (x, n) -> x.dark(2, n), BAD);
  }

  @Says("(-1: of the plate)")
  static void p14_ofThePlate() {
    MirrorPlate x = Scene.cut(99, "", 0, 0, 0, 5, 0, 0, 0, 3);
    Check.due("good(-1)", x.good(-1), 59);
    Check.due("good(0)", x.good(0), 99);
    Check.due("good(1)", x.good(1), 59);
  }

  @Says("; -5. NONE")
  static void p14_doesNotPrint() {
    Scene.leaves("good(2)", x -> x.good(2), -5);
    Scene.leaves(Scene::full, "good(7)", x -> x.good(7), -5);
    Scene.leaves(Scene::full, "good(-1)", x -> x.good(-1), -5);
    Scene.leaves(MirrorPlate::new, "good(-1)", x -> x.good(-1), -5);
  }

  @Says("-5. NONE")
  static void p14_noMark() {
    int[] noMark = {Integer.MIN_VALUE, -33, -2, Scene.BUSY_MARKS, 31, 32, 33, Integer.MAX_VALUE};
    Scene.refuses("good(n)", noMark, (x, n) -> x.good(n), NONE);
    Check.due("good(0), no marks", new MirrorPlate().good(0), NONE);
  }

  @Says("FIRST; -5")
  static void p15_none() {
    Scene.leaves(MirrorPlate::new, "first()", MirrorPlate::first, -5);
    Scene.leaves(Scene::full, "first()", MirrorPlate::first, -5);
    Scene.leaves(() -> Scene.cut(99, "wear 99", 2, 0, 0, 9), "first()", MirrorPlate::first, -5);
    Scene.leaves(() -> Scene.cut(99, "wear 99", 2, 0, 0, 9, 0, 0, 0, 9), "first()", MirrorPlate::first, 1);
  }

  @Says("BAD")
  static void p16_bad() {
    Scene.refuses("faded(n)", Scene.outside(0, 999), (x, n) -> x.faded(n), BAD);
    Scene.leaves(() -> Scene.cut(99, "", 0, 0, 0, 1), "faded(999)", x -> x.faded(999), 1);
    Scene.leaves(() -> Scene.cut(99, "", 0, 0, 0, 1), "faded(0)", x -> x.faded(0), 0);
  }
}
