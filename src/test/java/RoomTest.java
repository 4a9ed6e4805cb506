import com.sun.management.ThreadMXBean;
import java.lang.management.ManagementFactory;

/** All calls of a run live in one room: beside mark() and the constructor no call makes anything. */
public final class RoomTest {
  private static final ThreadMXBean BEAN = (ThreadMXBean) ManagementFactory.getThreadMXBean();
  private static long answers = 0;

  private static MirrorPlate crowded() {
    MirrorPlate x = new MirrorPlate();
    Check.plate(x, "risk 9 ((m=1|!k=2)&(d>3|t<5));risk 5 x>1&v<9|m=3;sure 3 !(!(t=2));wear 99;risk 7 d<9&!k=6");
    for (int i = 0; i < 8; i++) {
      x.mark(i < 4 ? 6 : 4, 9, 9 * i, 9);
    }
    return x;
  }

  private static void everyCall(MirrorPlate x) {
    for (int mark = 0; mark < 8; mark++) {
      answers += x.of(mark, 8) + x.row(mark, 0, 3) + x.dark(mark, 9) + x.good(mark) + x.mirror(mark) + x.beside(mark);
      answers += x.worth(mark) + x.see(mark, 4) + x.plan(0, mark) + x.book(mark, 9, 9) + x.act(mark, 2, 5) + x.as(mark, 3);
      answers += x.cut(mark, 5 * mark) + x.mend(mark) + x.over(mark) + x.rested() + x.hand(mark) + x.best();
    }
    answers += x.good(-1) + x.first() + x.faded(99) + x.order(-1) + x.order(3) + x.flaws(0) + x.clean(1) + x.crowd();
    answers += x.room(5) + x.proof(5) + x.proofs() + x.mends() + x.best() + x.ran(0) + x.errs() + x.odds(5, 5, 0);
    answers += x.mean(5, 0) + x.done(2) + x.looked() + x.trace(0) + x.image() + x.undo() + x.count(6) + x.rest(5) + x.print(9);
    answers += x.told(3) + x.feed('w') + x.feed('e') + x.plate() + x.see(-1, 0) + x.plan(-1, 0) + x.book(-1, 0, 0);
  }

  private static void callsMakeNothing() {
    MirrorPlate x = crowded();
    MirrorPlate fresh = crowded();
    everyCall(fresh);
    long thread = Thread.currentThread().getId();
    BEAN.getThreadAllocatedBytes(thread);
    long before = BEAN.getThreadAllocatedBytes(thread);
    long nothing = BEAN.getThreadAllocatedBytes(thread) - before;
    before = BEAN.getThreadAllocatedBytes(thread);
    everyCall(x);
    for (int i = 0; i < 20; i++) {
      everyCall(fresh);
    }
    long made = BEAN.getThreadAllocatedBytes(thread) - before - nothing;
    // One object in one call alone would show twenty times over.
    Check.holds("bytes made by every call but mark(): " + made, made < 20 * 16);
  }

  /** 256 marks, each undone: what mark() makes is some dozen small objects a call. */
  private static void marksMakeLittle() {
    MirrorPlate x = new MirrorPlate();
    x.image();
    long thread = Thread.currentThread().getId();
    long before = BEAN.getThreadAllocatedBytes(thread);
    for (int i = 0; i < 256; i++) {
      answers += x.mark(6, 1, 1, 1) + x.undo();
    }
    long made = BEAN.getThreadAllocatedBytes(thread) - before;
    Check.holds("bytes made by 256 marks: " + made, made < 256 * 3 * 120);
  }

  public static void main(String[] args) {
    if (BEAN.isThreadAllocatedMemorySupported()) {
      BEAN.setThreadAllocatedMemoryEnabled(true);
      callsMakeNothing();
      marksMakeLittle();
    }
    Check.holds("the calls were made", answers != 0);
    Check.finish();
  }
}
