/** Promises 21 to 24: MIRROR, BESIDE, CROWD, ROOM. */
public final class PlacesTest {
  private static final int NONE = MirrorPlate.NONE, BAD = MirrorPlate.BAD;

  private static MirrorPlate at(int... places) {
    MirrorPlate x = new MirrorPlate();
    for (int place : places) {
      x.mark(place % 7, 0, place, 1);
    }
    return x;
  }

  private static void mirror() {
    MirrorPlate x = at(0, 99, 42);
    Check.due("mirror(0)", x.mirror(0), 99);
    Check.due("mirror(1)", x.mirror(1), 0);
    Check.due("mirror(2)", x.mirror(2), 57);
    Check.due("mirror(3)", x.mirror(3), NONE);
    Check.due("mirror(-1)", x.mirror(-1), NONE);
  }

  private static void beside() {
    MirrorPlate x = at(10, 13, 14, 10, 99, 96);
    Check.due("beside(0): 3 is within 3, 4 is not", x.beside(0), 2 + 8);
    Check.due("beside(1)", x.beside(1), 1 + 4 + 8);
    Check.due("beside(2)", x.beside(2), 2);
    Check.due("beside(3): the same place", x.beside(3), 1 + 2);
    Check.due("beside(4)", x.beside(4), 32);
    Check.due("beside(5)", x.beside(5), 16);
    Check.due("beside(6)", x.beside(6), NONE);
    Check.due("beside(-1)", x.beside(-1), NONE);
    x.cut(1, 99);
    Check.due("beside, cut or not", x.beside(0), 2 + 8);
    Check.due("beside of one alone", at(50).beside(0), 0);
  }

  private static void crowd() {
    Check.due("crowd(): no marks", at().crowd(), -5);
    Check.due("crowd(): one alone", at(50).crowd(), 0);
    Check.due("crowd(): none beside another", at(50, 60, 70).crowd(), 0);
    Check.due("crowd(): the one in the middle", at(10, 13, 14, 10).crowd(), 1);
    Check.due("crowd(): of several the first", at(90, 20, 22, 50, 52).crowd(), 1);
    Check.due("crowd(): the last has most", at(10, 16, 13).crowd(), 2);
  }

  private static void room() {
    MirrorPlate none = at();
    Check.due("room(9): no marks", none.room(9), 0);
    Check.due("room(0)", none.room(0), BAD);
    Check.due("room(10)", none.room(10), BAD);
    MirrorPlate zero = at(0);
    Check.due("room(1) behind 0", zero.room(1), 1);
    Check.due("room(9) behind 0", zero.room(9), 9);
    MirrorPlate five = at(5);
    Check.due("room(5): 5 is not nearer than 5", five.room(5), 0);
    Check.due("room(6)", five.room(6), 11);
    MirrorPlate full = at(8, 25, 42, 59, 76, 93);
    Check.due("room(9): none", full.room(9), -5);
    Check.due("room(8)", full.room(8), 0);
    MirrorPlate last = at(8, 25, 42, 59, 76, 90);
    Check.due("room(9): the last place", last.room(9), 99);
    Check.due("room(9): by numbers in any order", at(59, 90, 8, 42, 76, 25).room(9), 99);
  }

  public static void main(String[] args) {
    mirror();
    beside();
    crowd();
    room();
    Check.finish();
  }
}
