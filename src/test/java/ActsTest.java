/** Promises 40 to 45: ACTS, THE TRACE, KINDS, THE IMAGE, what is counted. */
public final class ActsTest {
  private static final int NONE = MirrorPlate.NONE, STATE = MirrorPlate.STATE;

  /** One mark of each kind, its number its kind, its v 3 more. */
  private static MirrorPlate kinds() {
    MirrorPlate x = new MirrorPlate();
    for (int kind = 0; kind <= 6; kind++) {
      x.mark(kind, kind + 3, 0, 5);
    }
    return x;
  }

  private static void acts(MirrorPlate x, int mark, int act, int n, int want, int... bodies) {
    String call = "act(" + mark + ", " + act + ", " + n + ")";
    Check.due(call, x.act(mark, act, n), want);
    Check.due(call + ": count(6)", x.count(6), bodies.length);
    for (int i = 0; i < bodies.length; i++) {
      Check.due(call + ": trace(" + i + ")", x.trace(i), bodies[i]);
    }
    Check.due(call + ": trace behind the last", x.trace(bodies.length), NONE);
  }

  private static void bodies() {
    MirrorPlate x = kinds();
    acts(x, 0, 0, 10, 10, 1);
    acts(x, 0, 1, 10, 7, 2, 1);
    acts(x, 0, 2, 10, 14, 3, 2, 1);
    acts(x, 1, 0, 10, 31, 11, 1);
    acts(x, 1, 1, 10, 27, 2, 11, 1);
    acts(x, 1, 2, 10, 54, 3, 2, 11, 1);
    acts(x, 2, 0, 10, 12, 1);
    acts(x, 2, 1, 10, -7, 21, 2, 1);
    acts(x, 2, 2, 10, -14, 3, 21, 2, 1);
    acts(x, 3, 0, 10, 13, 1);
    acts(x, 3, 1, 10, 7, 2, 1);
    acts(x, 3, 2, 10, 9, 31, 3, 2, 1);
    acts(x, 4, 0, 10, 34, 11, 1);
    acts(x, 4, 1, 10, 27, 2, 11, 1);
    acts(x, 4, 2, 10, 58, 41, 3, 2, 11, 1, 11, 1);
    acts(x, 5, 0, 10, 10, 51, 1);
    acts(x, 5, 1, 10, -2, 21, 2, 51, 1);
    acts(x, 5, 2, 10, -4, 3, 21, 2, 51, 1);
    acts(x, 6, 0, 10, 16, 1);
    acts(x, 6, 1, 10, 16, 61, 2, 1);
    acts(x, 6, 2, 10, 39, 31, 3, 61, 2, 1);
  }

  private static void wrapping() {
    MirrorPlate x = kinds();
    int most = Integer.MAX_VALUE;
    int least = Integer.MIN_VALUE;
    acts(x, 0, 0, most, most, 1);
    acts(x, 2, 0, most, least + 1, 1);
    acts(x, 0, 2, most, -8, 3, 2, 1);
    acts(x, 1, 0, most, 2147483646, 11, 1);
    acts(x, 1, 0, least, least + 1, 11, 1);
    acts(x, 2, 1, least + 3, least, 21, 2, 1);
    acts(x, 3, 2, least, -6 ^ 7, 31, 3, 2, 1);
    acts(x, 0, 1, -5, -8, 2, 1);
  }

  private static void noActs() {
    MirrorPlate x = kinds();
    for (int[] wrong : new int[][] {{-1, 0}, {7, 0}, {0, -1}, {0, 3}, {Integer.MAX_VALUE, Integer.MAX_VALUE}}) {
      x.act(0, 2, 1);
      Check.due("count(6) behind an act", x.count(6), 3);
      Check.due("act(" + wrong[0] + ", " + wrong[1] + ", 5)", x.act(wrong[0], wrong[1], 5), 0);
      Check.due("count(6): no trace then", x.count(6), 0);
      Check.due("trace(0): no trace then", x.trace(0), NONE);
    }
    x.act(4, 2, 1);
    Check.due("trace(-1)", x.trace(-1), NONE);
    Check.due("trace(20)", x.trace(20), NONE);
    Check.due("trace(least)", x.trace(Integer.MIN_VALUE), NONE);
    x.act(0, 0, 1);
    Check.due("trace(0) of a shorter act", x.trace(0), 1);
    Check.due("trace(1) of a shorter act", x.trace(1), NONE);
  }

  private static void kindsAbove() {
    MirrorPlate x = kinds();
    boolean[][] is = {
        {true, false, false, false, false, false, false},
        {true, true, false, false, false, false, false},
        {true, false, true, false, false, false, false},
        {true, false, false, true, false, false, false},
        {true, true, false, false, true, false, false},
        {true, false, true, false, false, true, false},
        {true, false, false, true, false, false, true}};
    for (int mark = 0; mark <= 6; mark++) {
      for (int k = 0; k <= 6; k++) {
        Check.due("as(" + mark + ", " + k + ")", x.as(mark, k), is[mark][k] ? mark + 3 : -6);
      }
      Check.due("as(" + mark + ", -1)", x.as(mark, -1), NONE);
      Check.due("as(" + mark + ", 7)", x.as(mark, 7), NONE);
    }
    Check.due("as(-1, 0)", x.as(-1, 0), NONE);
    Check.due("as(7, 0)", x.as(7, 0), NONE);
    x.cut(6, 99);
    Check.due("as, cut or not", x.as(6, 3), 9);
  }

  private static MirrorPlate full() {
    MirrorPlate x = new MirrorPlate();
    Check.plate(x, "wear 7;mend 3;risk 40 m<2");
    x.mark(6, 1, 10, 5);
    x.mark(1, 2, 20, 6);
    x.mark(0, 3, 30, 7);
    x.row(0, 1, 4);
    x.cut(0, 2);
    x.cut(1, 99);
    x.mend(1);
    x.print(9);
    x.see(0, 3);
    x.plan(0, 2);
    x.plan(3, 0);
    for (int n = 0; n < 5; n++) {
      x.see(n % 3, 4 + n);
      x.plan(4, n);
      x.book(1, n, x.dark(1, n));
    }
    x.book(1, 5, 30);
    Check.feed(x, "wear 1");
    return x;
  }

  private static void change(MirrorPlate x) {
    x.feed('1');
    x.plate();
    Check.feed(x, "mend 9;x");
    x.mark(5, 9, 90, 9);
    x.row(0, 1, 9);
    x.row(0, 0, 9);
    x.over(0);
    x.mend(0);
    x.cut(2, 0);
    x.cut(3, 0);
    x.print(77);
    x.rest(9);
    x.see(-1, 0);
    x.see(1, 1);
    x.see(1, 2);
    x.plan(-1, 0);
    x.plan(4, 0);
    x.book(-1, 0, 0);
    x.book(2, 2, 2);
    x.book(2, 2, 3);
  }

  private static void image() {
    MirrorPlate x = full();
    Check.due("undo(): no image", x.undo(), STATE);
    String before = Check.state(x);
    Check.due("image()", x.image(), 3);
    Check.holds("image() changes nothing", Check.state(x).equals(before));
    for (int times = 0; times < 3; times++) {
      change(x);
      Check.holds("all is changed", !Check.state(x).equals(before));
      Check.due("undo()", x.undo(), 3);
      Check.holds("all is as the image", Check.state(x).equals(before));
      Check.due("the ROW", x.row(0, 1, 4), 4);
      Check.due("the ROW, too", x.row(0, 0, 0), 0);
      Check.due("the other mark is gone", x.of(3, 0), NONE);
    }
    Check.due("the tape goes on", x.feed('9'), 7);
    Check.due("the tape reads as it was", x.plate(), 1);
    Check.due("wear 19", x.told(3), 19);
    Check.due("a mark of another kind in the place of one that is gone", x.mark(4, 5, 60, 9), 3);
    Check.due("image() of four", x.image(), 4);
    x.cut(3, 99);
    x.undo();
    Check.due("undo() of a cut", x.of(3, 4), 0);
    Check.due("its kind", x.of(3, 0), 4);
    Check.due("its needs", x.of(3, 9), 108);
    x.plan(-1, 0);
    x.plan(0, 3);
    Check.due("its needs in thought", x.done(0), 108);
  }

  /** Each row that is told by hand comes back, and is told by what it answers. */
  private static void rowsOfTheImage() {
    MirrorPlate x = full();
    x.image();
    int looked = x.looked();
    int done = x.done(1);
    Check.due("looked(): the sixth is not so", looked, 5);
    change(x);
    for (int i = 0; i < 8; i++) {
      x.see(0, 30);
      x.plan(2, 0);
      x.book(0, 0, 30);
    }
    x.undo();
    Check.due("looked() behind undo()", x.looked(), looked);
    Check.due("done(1) behind undo()", x.done(1), done);
    Check.due("ran(0): cannot be", x.ran(0), 0);
    for (int mark = 0; mark < 3; mark++) {
      x.see(-1, 0);
      x.see(mark, x.dark(mark, 0));
      x.image();
      int ran = x.ran(0);
      x.see(-1, 0);
      x.see(2, 30);
      x.undo();
      Check.due("ran(0) behind undo()", x.ran(0), ran);
    }
  }

  private static void whatIsNotInTheImage() {
    MirrorPlate x = kinds();
    x.act(0, 2, 5);
    x.image();
    x.act(4, 2, 5);
    x.undo();
    Check.due("the trace stays behind undo()", x.count(6), 7);
    Check.due("the trace's first", x.trace(0), 41);
    Check.due("undo() again: the image stays", x.undo(), 7);
    MirrorPlate empty = new MirrorPlate();
    Check.due("image() of nothing", empty.image(), 0);
    Check.plate(empty, "wear 3");
    empty.mark(0, 0, 0, 1);
    Check.due("undo() to nothing", empty.undo(), 0);
    Check.due("no plate", empty.count(1), 0);
    Check.due("WEAR without a plate", empty.told(3), 20);
    Check.due("a new first plate", Check.plate(empty, "wear 4"), 0);
    Check.due("its WEAR", empty.told(3), 4);
    Check.due("looked() of no rows", empty.looked(), -5);
    empty.image();
    Check.plate(empty, "wear 5");
    Check.plate(empty, "wear 6");
    empty.undo();
    Check.due("the plate that held then", empty.told(3), 4);
    Check.due("a fault behind undo()", Check.plate(empty, "wear 7;wear"), -21);
    Check.due("it still holds", empty.told(3), 4);
    Check.due("the next plate's number", Check.plate(empty, "wear 8"), 1);
  }

  private static void counting() {
    MirrorPlate x = full();
    int[] want = {3, 1, 6, 7, 6, 6, 0};
    for (int what = 0; what <= 6; what++) {
      Check.due("count(" + what + ")", x.count(what), want[what]);
    }
    x.act(0, 2, 3);
    Check.due("count(6) behind an act", x.count(6), 5);
    Check.due("count(-1)", x.count(-1), NONE);
    Check.due("count(7)", x.count(7), NONE);
  }

  public static void main(String[] args) {
    bodies();
    wrapping();
    noActs();
    kindsAbove();
    image();
    rowsOfTheImage();
    whatIsNotInTheImage();
    counting();
    Check.finish();
  }
}
