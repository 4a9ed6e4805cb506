/** What the tests of edges begin from, and how they see that a call changed nothing. */
final class Scene {
  static final String ALWAYS = "risk 99 d>0";

  interface Made {
    MirrorPlate made();
  }

  interface Ask {
    long of(MirrorPlate x);
  }

  interface AskBy {
    long of(MirrorPlate x, int n);
  }

  private Scene() {}

  /** An object with a plate (without, if the text is empty) and marks by four numbers each: kind, v, place, depth. */
  static MirrorPlate of(String clauses, int... marks) {
    MirrorPlate x = new MirrorPlate();
    if (!clauses.isEmpty()) {
      Check.due("plate() of '" + clauses + "'", Check.plate(x, clauses), 0);
    }
    for (int i = 0; i < marks.length; i += 4) {
      Check.due("mark", x.mark(marks[i], marks[i + 1], marks[i + 2], marks[i + 3]), i / 4);
    }
    return x;
  }

  /** The same, and all its marks cut by a draw. */
  static MirrorPlate cut(int draw, String clauses, int... marks) {
    MirrorPlate x = of(clauses, marks);
    for (int mark = 0; mark < x.count(0); mark++) {
      x.cut(mark, draw);
    }
    return x;
  }

  /** LINES that are not cut, one at each place. */
  static MirrorPlate at(int... places) {
    MirrorPlate x = new MirrorPlate();
    for (int place : places) {
      x.mark(1, 0, place, 1);
    }
    return x;
  }

  /** A hand that is this tired, by marks that are cut behind those told here, which are not. */
  static MirrorPlate tired(int tired, String clauses, int... marks) {
    MirrorPlate x = of(clauses, marks);
    x.cut(x.mark(4, 9, 0, 9), 99);
    for (int left = 90; left > tired; left -= 2) {
      x.rest(1);
    }
    int left = tired - x.told(2);
    if (left > 0) {
      x.cut(x.mark(1, 0, 0, left), 99);
    }
    Check.due("TIRED", x.told(2), tired);
    return x;
  }

  /** Some of everything: marks that are cut and not, a flaw, what is told by hand, a tape, a trace, an image. */
  static MirrorPlate busy() {
    MirrorPlate x = of("wear 3;mend 4", 6, 1, 10, 5, 1, 2, 12, 6, 0, 3, 30, 7);
    x.cut(1, 99);
    x.see(1, 7);
    x.image();
    Check.plate(x, "wear 7;mend 3;risk 40 m<1");
    x.mark(6, 4, 40, 2);
    x.row(0, 1, 4);
    x.row(3, 2, 9);
    x.cut(0, 2);
    x.mend(1);
    x.print(9);
    x.see(0, 3);
    x.plan(0, 2);
    x.plan(3, 0);
    x.book(1, 5, 6);
    x.act(0, 2, 5);
    Check.feed(x, "wear 1");
    return x;
  }

  static final int BUSY_MARKS = 4;

  /** 8 marks of all kinds, 6 of them seen, 8 rows of the plan and of the book. */
  static MirrorPlate full() {
    MirrorPlate x = of("", 0, 1, 0, 1, 1, 1, 9, 2, 2, 1, 20, 3, 3, 1, 30, 4, 4, 1, 40, 5, 5, 1, 50, 6, 6, 1, 60, 7, 0, 9, 99, 9);
    for (int i = 0; i < 8; i++) {
      x.see(i, i);
      x.plan(i % 5, i);
      x.book(i, i, i);
    }
    return x;
  }

  /** MINUTE is 99090. That takes over a thousand calls: no 512 get there, so here the document is taken at its word. */
  static MirrorPlate late() {
    MirrorPlate x = cut(99, "", 4, 9, 0, 9);
    x.mark(0, 0, 50, 2);
    for (int i = 0; i < 1099; i++) {
      x.over(0);
    }
    Check.due("MINUTE", x.told(0), 99090);
    return x;
  }

  /** A range's neighbours, and what lies farthest out. */
  static int[] outside(int least, int most) {
    return new int[] {Integer.MIN_VALUE, least - 1, most + 1, Integer.MAX_VALUE};
  }

  /** What a call answers, and that all is as it is in an object to which it was not put. */
  static void leaves(Made made, String call, Ask ask, long want) {
    MirrorPlate x = made.made();
    Check.due(call, ask.of(x), want);
    Check.holds(call + " changes nothing", all(x).equals(all(made.made())));
  }

  static void leaves(String call, Ask ask, long want) {
    leaves(Scene::busy, call, ask, want);
  }

  /** Each of these numbers is refused, and nothing is changed by it. */
  static void refuses(String call, int[] numbers, AskBy ask, long want) {
    for (int n : numbers) {
      leaves(call + ", n being " + n, x -> ask.of(x, n), want);
    }
  }

  /** All that an object answers; it is of no more use behind that. */
  static String all(MirrorPlate x) {
    StringBuilder all = new StringBuilder(Check.state(x)).append("; trace");
    for (int i = 0; i < 20; i++) {
      all.append(' ').append(x.trace(i));
    }
    all.append("; asked ").append(x.good(-1)).append(' ').append(x.first()).append(' ').append(x.faded(50));
    for (int k = -1; k <= 5; k++) {
      all.append(' ').append(x.order(k));
    }
    all.append(' ').append(x.rested()).append(' ').append(x.flaws(0)).append(' ').append(x.clean(0));
    all.append(' ').append(x.crowd()).append(' ').append(x.proof(3)).append(' ').append(x.mends()).append(' ').append(x.best());
    all.append(' ').append(x.hand(9)).append(' ').append(x.errs()).append(' ').append(x.mean(9, 0));
    rows(x, all.append("; rows"));
    all.append("; tape ").append(x.plate()).append(' ').append(x.told(3)).append(' ').append(x.told(4));
    all.append("; image ").append(x.undo()).append(' ').append(Check.state(x));
    rows(x, all);
    return all.toString();
  }

  private static void rows(MirrorPlate x, StringBuilder all) {
    for (int mark = 0; mark < x.count(0); mark++) {
      for (int k = 0; k < 4; k++) {
        all.append(' ').append(x.row(mark, k, 0));
      }
    }
  }
}
