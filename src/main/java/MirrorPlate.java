/**
 * A plate of copper whose marks are cut mirrored: the hand that cuts them, how dark they print,
 * and what can be asked about them. ../shared/DOC.md says what every call answers.
 *
 * All rows are made in the constructor and used again; beside it only mark() makes objects.
 */
public final class MirrorPlate {
  public static final int NONE = -1, BAD = -2, STATE = -3, FULL = -4;
  public static final long NO = Long.MIN_VALUE;

  private static final int NOTHING = -5;
  private static final int OTHER_KIND = -6;
  private static final int TOO_MANY = -9;
  private static final int FAULT = -10;
  private static final int NO_SUCH_WORTH = -1001;
  private static final int UNCUT_WORTH = -1002;

  private static final int MOST_MARKS = 8;
  private static final int MOST_PLATES = 5;
  private static final int MOST_SIGNS = 100;
  private static final int MOST_ORDERED = 6;
  private static final int MOST_IN_FRACTION = 4;
  private static final int MOST_TIRED = 99;
  private static final int MOST_PRINTS = 999;
  private static final int MOST_DARK = 30;
  private static final int MOST_KEPT_PRINTS = 9999;
  private static final int NO_LIMIT = 1000000000;
  private static final int LAST_MINUTE = 99000;

  private static final int MARK = 0, LINE = 1, LETTER = 2, NUMBER = 3, HATCH = 4, TURNED = 5, TOLD = 6;
  private static final int PLAN_CUT = 0, PLAN_MEND = 1, PLAN_OVER = 2, PLAN_REST = 3, PLAN_PRINTS = 4;
  private static final int PLAN_DRAW = 99, REST_MINUTES = 10, PLAN_PRINTS_TAKEN = 50;

  private final Bench now;
  private final Bench image;
  private final Bench thought;
  private final Plate[] plates;
  private final Trace trace;
  private final int[] uncut;
  private final int[] leastRisk;
  private final int[] nextCut;
  private boolean imageTaken;

  public MirrorPlate() {
    Plate bare = new Plate();
    now = new Bench(bare);
    image = new Bench(bare);
    thought = new Bench(bare);
    plates = new Plate[MOST_PLATES];
    for (int i = 0; i < MOST_PLATES; i++) {
      plates[i] = new Plate();
    }
    trace = new Trace();
    uncut = new int[MOST_MARKS];
    leastRisk = new int[1 << MOST_ORDERED];
    nextCut = new int[1 << MOST_ORDERED];
  }

  // ---- plates, marks

  public int feed(int sign) {
    if (!within(sign, 0, 127)) {
      return BAD;
    }
    return now.tape.isFull() ? FULL : now.tape.add(sign, 0, 0);
  }

  public int plate() {
    if (now.plateCount >= MOST_PLATES) {
      return FULL;
    }
    // Read into the slot behind the newest one: neither NOW nor THE IMAGE looks at that slot.
    Plate next = plates[now.plateCount];
    int fault = next.readTape(now.tape.cells, now.tape.size);
    now.tape.empty();
    if (fault >= 0) {
      return FAULT - fault;
    }
    now.held = next;
    return now.plateCount++;
  }

  public int mark(int kind, int v, int place, int depth) {
    if (!within(kind, MARK, TOLD)) {
      return NONE;
    }
    if (!within(v, 0, 9) || !within(place, 0, 99) || !within(depth, 1, 9)) {
      return BAD;
    }
    int number = now.size;
    if (number >= MOST_MARKS) {
      return FULL;
    }
    // THE IMAGE and what is tried in thought need a mark of the same class to copy into.
    now.marks[number] = newMark(kind, number, v, place, depth);
    image.marks[number] = newMark(kind, number, v, place, depth);
    thought.marks[number] = newMark(kind, number, v, place, depth);
    now.size = number + 1;
    return number;
  }

  public int of(int mark, int what) {
    Mark m = now.markAt(mark);
    if (m == null) {
      return NONE;
    }
    switch (what) {
      case 0: return m.kind;
      case 1: return m.v;
      case 2: return m.place;
      case 3: return m.depth;
      case 4: return m.isCut ? 1 : 0;
      case 5: return m.flaw;
      case 6: return m.worn;
      case 7: return m.mended;
      case 8: return now.held.riskOf(m, now.tired);
      case 9: return m.needs();
      case 10: return now.darkBehind(m, 0);
      default: return NONE;
    }
  }

  public int row(int mark, int k, int n) {
    Mark m = now.markAt(mark);
    if (m == null || !within(k, 0, 3)) {
      return NONE;
    }
    if (!within(n, 0, 9)) {
      return BAD;
    }
    return m instanceof Told t ? t.tell(k, n) : STATE;
  }

  public int told(int what) {
    switch (what) {
      case 0: return now.minute;
      case 1: return now.taken;
      case 2: return now.tired;
      case 3: return now.held.wear;
      case 4: return now.held.mending;
      default: return NONE;
    }
  }

  public int cut(int mark, int d) {
    Mark m = now.markAt(mark);
    if (m == null) {
      return NONE;
    }
    if (!within(d, 0, 99)) {
      return BAD;
    }
    if (m.isCut || now.minute > LAST_MINUTE) {
      return STATE;
    }
    now.cutMark(m, d);
    return m.flaw;
  }

  public int rest(int n) {
    if (!within(n, 0, 60)) {
      return BAD;
    }
    if (now.minute > LAST_MINUTE) {
      return STATE;
    }
    now.restFor(n);
    return now.tired;
  }

  public int mend(int mark) {
    Mark m = now.markAt(mark);
    if (m == null) {
      return NONE;
    }
    if (!m.isCut || m.mended >= 9 || now.minute > LAST_MINUTE) {
      return STATE;
    }
    now.mendMark(m);
    return now.darkBehind(m, 0);
  }

  public int over(int mark) {
    Mark m = now.markAt(mark);
    if (m == null) {
      return NONE;
    }
    if (!m.isCut || now.minute > LAST_MINUTE) {
      return STATE;
    }
    now.goOver(m);
    return now.darkBehind(m, 0);
  }

  public int print(int n) {
    if (!within(n, 0, MOST_PRINTS)) {
      return BAD;
    }
    now.takePrints(n, MOST_KEPT_PRINTS);
    return Integer.bitCount(now.printing(0));
  }

  public int dark(int mark, int n) {
    Mark m = now.markAt(mark);
    if (m == null) {
      return NONE;
    }
    return within(n, 0, MOST_PRINTS) ? now.darkBehind(m, n) : BAD;
  }

  // ---- prints

  public int good(int mark) {
    if (mark == -1) {
      return now.goodFor(now.printing(0));
    }
    if (now.markAt(mark) == null) {
      return NONE;
    }
    return now.goodFor(now.printing(0) & 1 << mark);
  }

  public int first() {
    int bits = now.printing(0);
    for (int n = 1; n <= MOST_PRINTS; n++) {
      int faded = now.firstFaded(bits, n);
      if (faded >= 0) {
        return faded;
      }
    }
    return NOTHING;
  }

  public int faded(int n) {
    return within(n, 0, MOST_PRINTS) ? now.printing(0) & ~now.printing(n) : BAD;
  }

  // ---- cutting

  public int order(int k) {
    if (!within(k, -1, MOST_ORDERED - 1)) {
      return NONE;
    }
    int many = gatherUncut();
    if (many > MOST_ORDERED) {
      return TOO_MANY;
    }
    findOrder(many);
    if (k == -1) {
      return leastRisk[0];
    }
    if (k >= many) {
      return NOTHING;
    }
    int set = 0;
    for (int i = 0; i < k; i++) {
      set |= 1 << nextCut[set];
    }
    return uncut[nextCut[set]];
  }

  public int rested() {
    int least = now.riskWithRest(-1);
    int ahead = NOTHING;
    for (int i = 0; i < now.size; i++) {
      if (!now.marks[i].isCut) {
        int risk = now.riskWithRest(i);
        if (risk < least) {
          least = risk;
          ahead = i;
        }
      }
    }
    return ahead;
  }

  public long flaws(int part) {
    int many = Math.min(gatherUncut(), MOST_IN_FRACTION);
    int tired = now.tired;
    long flawed = 0;
    for (int i = 0; i < many; i++) {
      Mark m = now.marks[uncut[i]];
      flawed += now.held.riskOf(m, tired);
      tired = m.tiredBehindCut(tired);
    }
    return fraction(flawed, 100, part);
  }

  public long clean(int part) {
    int many = Math.min(gatherUncut(), MOST_IN_FRACTION);
    int tired = now.tired;
    long above = 1;
    long below = 1;
    for (int i = 0; i < many; i++) {
      Mark m = now.marks[uncut[i]];
      above *= 100 - now.held.riskOf(m, tired);
      below *= 100;
      tired = m.tiredBehindCut(tired);
    }
    return fraction(above, below, part);
  }

  // ---- places

  public int mirror(int mark) {
    Mark m = now.markAt(mark);
    return m == null ? NONE : 99 - m.place;
  }

  public int beside(int mark) {
    return now.markAt(mark) == null ? NONE : now.besideOf(mark);
  }

  public int crowd() {
    int most = -1;
    int crowded = NOTHING;
    for (int i = 0; i < now.size; i++) {
      int many = Integer.bitCount(now.besideOf(i));
      if (many > most) {
        most = many;
        crowded = i;
      }
    }
    return crowded;
  }

  public int room(int depth) {
    if (!within(depth, 1, 9)) {
      return BAD;
    }
    for (int place = 0; place <= 99; place++) {
      if (now.isFree(place, depth)) {
        return place;
      }
    }
    return NOTHING;
  }

  // ---- proofs, mending

  public int proof(int e) {
    return within(e, 0, 9) ? now.provedBy(e) : BAD;
  }

  public int proofs() {
    int flawed = now.flawed();
    for (int e = 0; e <= 9; e++) {
      if (now.provedBy(e) == flawed) {
        return e;
      }
    }
    return NOTHING;
  }

  public int mends() {
    int flawed = now.flawed();
    thought.copyWork(now);
    for (int i = 0; i < thought.size; i++) {
      if ((flawed >> i & 1) == 1) {
        thought.mendMark(thought.marks[i]);
      }
    }
    return flawed & thought.printing(0);
  }

  public int worth(int mark) {
    Mark m = now.markAt(mark);
    if (m == null) {
      return NO_SUCH_WORTH;
    }
    return m.isCut ? goodGoneOver(mark) - goodAsItIs() : UNCUT_WORTH;
  }

  public int best() {
    int most = goodAsItIs();
    int best = NOTHING;
    for (int i = 0; i < now.size; i++) {
      if (now.marks[i].isCut) {
        int good = goodGoneOver(i);
        if (good > most) {
          most = good;
          best = i;
        }
      }
    }
    return best;
  }

  // ---- seen, odds, plans, books

  public int see(int mark, int dark) {
    if (mark == -1) {
      return now.seen.empty();
    }
    if (now.markAt(mark) == null) {
      return NONE;
    }
    if (!within(dark, 0, MOST_DARK)) {
      return BAD;
    }
    return now.seen.isFull() ? FULL : now.seen.add(mark, dark, 0);
  }

  public int ran(int what) {
    if (!within(what, 0, 1)) {
      return NONE;
    }
    int many = 0;
    int least = NOTHING;
    for (int n = 0; n <= MOST_PRINTS; n++) {
      if (now.isAsSeen(n)) {
        if (many == 0) {
          least = n;
        }
        many++;
      }
    }
    return what == 0 ? many : least;
  }

  public int hand(int d) {
    if (!within(d, 0, 99)) {
      return BAD;
    }
    int bits = 0;
    for (int i = 0; i < now.size; i++) {
      Mark m = now.marks[i];
      if (!m.isCut && d < now.held.riskOf(m, now.tired)) {
        bits |= 1 << i;
      }
    }
    return bits;
  }

  public int errs() {
    int most = 0;
    int flaw = 0;
    for (int f = 1; f <= 3; f++) {
      int many = now.countFlaw(f);
      if (many > most) {
        most = many;
        flaw = f;
      }
    }
    return flaw;
  }

  public long odds(int q, int n, int part) {
    if (!within(q, 0, MOST_DARK) || !within(n, 0, MOST_PRINTS)) {
      return NO;
    }
    long all = 0;
    long dark = 0;
    for (int i = 0; i < now.size; i++) {
      Mark m = now.marks[i];
      if (m.isCut) {
        all++;
        if (now.darkBehind(m, n) >= q) {
          dark++;
        }
      }
    }
    return fraction(dark, all, part);
  }

  public long mean(int n, int part) {
    if (!within(n, 0, MOST_PRINTS)) {
      return NO;
    }
    long all = 0;
    long dark = 0;
    for (int i = 0; i < now.size; i++) {
      Mark m = now.marks[i];
      if (m.isCut) {
        all++;
        dark += now.darkBehind(m, n);
      }
    }
    return fraction(dark, all, part);
  }

  public int plan(int what, int mark) {
    if (what == -1) {
      return now.plan.empty();
    }
    if (!within(what, PLAN_CUT, PLAN_PRINTS) || what <= PLAN_OVER && now.markAt(mark) == null) {
      return NONE;
    }
    return now.plan.isFull() ? FULL : now.plan.add(what, mark, 0);
  }

  public int done(int what) {
    if (!within(what, 0, 2)) {
      return NONE;
    }
    thought.copyWork(now);
    for (int i = 0; i < now.plan.size; i++) {
      planInThought(now.plan.at(i, 0), now.plan.at(i, 1));
    }
    switch (what) {
      case 0: return thought.minute - now.minute;
      case 1: return thought.tired;
      default: return Integer.bitCount(thought.printing(0));
    }
  }

  public int book(int mark, int n, int dark) {
    if (mark == -1) {
      return now.book.empty();
    }
    if (now.markAt(mark) == null) {
      return NONE;
    }
    if (!within(n, 0, MOST_PRINTS) || !within(dark, 0, MOST_DARK)) {
      return BAD;
    }
    return now.book.isFull() ? FULL : now.book.add(mark, n, dark);
  }

  public int looked() {
    for (int i = 0; i < now.book.size; i++) {
      Mark m = now.markAt(now.book.at(i, 0));
      if (m == null || now.darkBehind(m, now.book.at(i, 1)) != now.book.at(i, 2)) {
        return i;
      }
    }
    return NOTHING;
  }

  // ---- acts, the image

  public int act(int mark, int act, int x) {
    trace.ran = 0;
    Mark m = now.markAt(mark);
    if (m == null) {
      return 0;
    }
    switch (act) {
      case 0: return m.cuts(x, trace);
      case 1: return m.prints(x, trace);
      case 2: return m.tells(x, trace);
      default: return 0;
    }
  }

  public int trace(int i) {
    return within(i, 0, Math.min(trace.ran, trace.kept.length) - 1) ? trace.kept[i] : NONE;
  }

  public int as(int mark, int k) {
    Mark m = now.markAt(mark);
    if (m == null || !within(k, MARK, TOLD)) {
      return NONE;
    }
    return isOfKind(m, k) ? m.v : OTHER_KIND;
  }

  public int image() {
    image.copyAll(now);
    imageTaken = true;
    return now.size;
  }

  public int undo() {
    if (!imageTaken) {
      return STATE;
    }
    now.copyAll(image);
    return now.size;
  }

  public int count(int what) {
    switch (what) {
      case 0: return now.size;
      case 1: return now.plateCount;
      case 2: return now.seen.size;
      case 3: return now.plan.size;
      case 4: return now.book.size;
      case 5: return now.tape.size;
      case 6: return trace.ran;
      default: return NONE;
    }
  }

  // ---- what several of them need

  private static boolean within(int n, int least, int most) {
    return n >= least && n <= most;
  }

  private static int moreTired(int tired, int more) {
    return Math.min(MOST_TIRED, tired + more);
  }

  private static int lessTired(int tired, int minutes) {
    return Math.max(0, tired - 2 * minutes);
  }

  /** The part of a fraction in lowest terms; NO, if there is no such part or nothing below the line. */
  private static long fraction(long above, long below, int part) {
    if (!within(part, 0, 1) || below <= 0) {
      return NO;
    }
    long a = above;
    long b = below;
    for (int i = 0; i < 100 && a != 0; i++) {
      long rest = b % a;
      b = a;
      a = rest;
    }
    if (b <= 0) {
      return NO;
    }
    return part == 0 ? above / b : below / b;
  }

  private static Mark newMark(int kind, int number, int v, int place, int depth) {
    switch (kind) {
      case LINE: return new Line(kind, number, v, place, depth);
      case LETTER: return new Letter(kind, number, v, place, depth);
      case NUMBER: return new Numeral(kind, number, v, place, depth);
      case HATCH: return new Hatch(kind, number, v, place, depth);
      case TURNED: return new Turned(kind, number, v, place, depth);
      case TOLD: return new Told(kind, number, v, place, depth);
      default: return new Mark(kind, number, v, place, depth);
    }
  }

  private static boolean isOfKind(Mark m, int kind) {
    switch (kind) {
      case LINE: return m instanceof Line;
      case LETTER: return m instanceof Letter;
      case NUMBER: return m instanceof Numeral;
      case HATCH: return m instanceof Hatch;
      case TURNED: return m instanceof Turned;
      case TOLD: return m instanceof Told;
      default: return true;
    }
  }

  private int gatherUncut() {
    int many = 0;
    for (int i = 0; i < now.size; i++) {
      if (!now.marks[i].isCut) {
        uncut[many] = i;
        many++;
      }
    }
    return many;
  }

  /**
   * How tired the hand is depends on which marks are cut by then, not on their order. So it is
   * enough to know, for each set of marks that are cut, the least risk of all the others and the
   * first mark by which it can be had; larger sets come first.
   */
  private void findOrder(int many) {
    int all = (1 << many) - 1;
    leastRisk[all] = 0;
    for (int set = all - 1; set >= 0; set--) {
      int tired = tiredBehindSet(set, many);
      leastRisk[set] = NO_LIMIT;
      for (int i = 0; i < many; i++) {
        if ((set >> i & 1) == 0) {
          int risk = now.held.riskOf(now.marks[uncut[i]], tired) + leastRisk[set | 1 << i];
          if (risk < leastRisk[set]) {
            leastRisk[set] = risk;
            nextCut[set] = i;
          }
        }
      }
    }
  }

  private int tiredBehindSet(int set, int many) {
    int tired = now.tired;
    for (int i = 0; i < many; i++) {
      if ((set >> i & 1) == 1) {
        tired = now.marks[uncut[i]].tiredBehindCut(tired);
      }
    }
    return tired;
  }

  private int goodAsItIs() {
    return Math.max(0, now.goodFor(now.printing(0)));
  }

  private int goodGoneOver(int mark) {
    thought.copyWork(now);
    Mark m = thought.markAt(mark);
    if (m != null) {
      thought.goOver(m);
    }
    return Math.max(0, thought.goodFor(thought.printing(0)));
  }

  private void planInThought(int what, int mark) {
    if (what == PLAN_REST) {
      thought.restFor(REST_MINUTES);
      return;
    }
    if (what == PLAN_PRINTS) {
      thought.takePrints(PLAN_PRINTS_TAKEN, NO_LIMIT);
      return;
    }
    Mark m = thought.markAt(mark);
    if (m == null || m.isCut == (what == PLAN_CUT)) {
      return;
    }
    if (what == PLAN_CUT) {
      thought.cutMark(m, PLAN_DRAW);
    } else if (what == PLAN_MEND) {
      thought.mendMark(m);
    } else {
      thought.goOver(m);
    }
  }

  /** All that an image has: the hand, the marks, how many plates there are, and what is told by hand. */
  private static final class Bench {
    int minute;
    int taken;
    int tired;
    int size;
    int plateCount;
    Plate held;
    final Mark[] marks;
    final Table tape;
    final Table seen;
    final Table plan;
    final Table book;

    Bench(Plate bare) {
      held = bare;
      marks = new Mark[MOST_MARKS];
      for (int i = 0; i < MOST_MARKS; i++) {
        marks[i] = new Mark(MARK, i, 0, 0, 1);
      }
      tape = new Table(new int[MOST_SIGNS], 1);
      seen = new Table(new int[12], 2);
      plan = new Table(new int[16], 2);
      book = new Table(new int[24], 3);
    }

    Mark markAt(int i) {
      return within(i, 0, size - 1) ? marks[i] : null;
    }

    /** The hand and the marks alone: what the questions that try something in thought need. */
    void copyWork(Bench other) {
      minute = other.minute;
      taken = other.taken;
      tired = other.tired;
      size = other.size;
      plateCount = other.plateCount;
      held = other.held;
      for (int i = 0; i < size; i++) {
        marks[i].copyFrom(other.marks[i]);
      }
    }

    void copyAll(Bench other) {
      copyWork(other);
      tape.copyFrom(other.tape);
      seen.copyFrom(other.seen);
      plan.copyFrom(other.plan);
      book.copyFrom(other.book);
    }

    void cutMark(Mark m, int draw) {
      m.flaw = draw < held.riskOf(m, tired) ? m.flawBy(draw) : 0;
      m.isCut = true;
      minute += m.needs();
      tired = m.tiredBehindCut(tired);
    }

    void restFor(int minutes) {
      minute += minutes;
      tired = lessTired(tired, minutes);
    }

    void mendMark(Mark m) {
      minute += held.mending;
      m.flaw = 0;
      m.mended = Math.min(9, m.mended + 1);
      m.worn = 0;
      tired = moreTired(tired, 5);
    }

    void goOver(Mark m) {
      minute += m.needs() / 2;
      m.worn = 0;
      m.depth = Math.min(9, m.depth + 1);
      tired = moreTired(tired, 3);
    }

    void takePrints(int n, int most) {
      taken = Math.min(most, taken + n);
      for (int i = 0; i < size; i++) {
        Mark m = marks[i];
        if (m.isCut) {
          m.worn = Math.min(most, m.worn + n);
        }
      }
    }

    int darkBehind(Mark m, int n) {
      return m.darkWorn(m.worn + n, held.wear);
    }

    /** Those that print behind n prints more, as bits. */
    int printing(int n) {
      int bits = 0;
      for (int i = 0; i < size; i++) {
        if (darkBehind(marks[i], n) > 0) {
          bits |= 1 << i;
        }
      }
      return bits;
    }

    /**
     * The first of these marks that does not print behind n prints more; -1, if all do. It asks the
     * mark itself, as by darkBehind() the calls of WORTH would go nine deep.
     */
    int firstFaded(int bits, int n) {
      for (int i = 0; i < size; i++) {
        Mark m = marks[i];
        if ((bits >> i & 1) == 1 && m.darkWorn(m.worn + n, held.wear) <= 0) {
          return i;
        }
      }
      return -1;
    }

    /** Told marks may fade and come back: so the most prints are looked for from the end. */
    int goodFor(int bits) {
      if (bits == 0) {
        return NOTHING;
      }
      for (int n = MOST_PRINTS; n > 0; n--) {
        if (firstFaded(bits, n) < 0) {
          return n;
        }
      }
      return 0;
    }

    /** The risk of all that are not cut, cut by their numbers, with a rest ahead of one of them (-1: none). */
    int riskWithRest(int ahead) {
      int hand = tired;
      int risk = 0;
      for (int i = 0; i < size; i++) {
        Mark m = marks[i];
        if (!m.isCut) {
          if (i == ahead) {
            hand = lessTired(hand, REST_MINUTES);
          }
          risk += held.riskOf(m, hand);
          hand = m.tiredBehindCut(hand);
        }
      }
      return risk;
    }

    int besideOf(int mark) {
      int bits = 0;
      Mark m = markAt(mark);
      for (int i = 0; m != null && i < size; i++) {
        if (i != mark && Math.abs(marks[i].place - m.place) <= 3) {
          bits |= 1 << i;
        }
      }
      return bits;
    }

    boolean isFree(int place, int depth) {
      for (int i = 0; i < size; i++) {
        if (Math.abs(marks[i].place - place) < depth) {
          return false;
        }
      }
      return true;
    }

    int flawed() {
      int bits = 0;
      for (int i = 0; i < size; i++) {
        if (marks[i].flaw != 0) {
          bits |= 1 << i;
        }
      }
      return bits;
    }

    int countFlaw(int flaw) {
      int many = 0;
      for (int i = 0; i < size; i++) {
        if (marks[i].flaw == flaw) {
          many++;
        }
      }
      return many;
    }

    int provedBy(int e) {
      int bits = 0;
      for (int i = 0; i < size; i++) {
        Mark m = marks[i];
        if (m.flaw != 0 && darkBehind(m, 0) + e >= 6) {
          bits |= 1 << i;
        }
      }
      return bits;
    }

    boolean isAsSeen(int n) {
      for (int i = 0; i < seen.size; i++) {
        Mark m = markAt(seen.at(i, 0));
        if (m == null || darkBehind(m, n) != seen.at(i, 1)) {
          return false;
        }
      }
      return true;
    }
  }

  /** Rows of one to three numbers, told one behind the other. */
  private static final class Table {
    final int[] cells;
    final int columns;
    int size;

    Table(int[] cells, int columns) {
      this.cells = cells;
      this.columns = columns;
    }

    boolean isFull() {
      return (size + 1) * columns > cells.length;
    }

    int empty() {
      size = 0;
      return 0;
    }

    /** One row more, if there is room; what is behind the last column is left out. */
    int add(int a, int b, int c) {
      if (!isFull()) {
        int start = size * columns;
        for (int k = 0; k < columns; k++) {
          cells[start + k] = k == 0 ? a : k == 1 ? b : c;
        }
        size++;
      }
      return size;
    }

    int at(int row, int column) {
      if (!within(row, 0, size - 1) || !within(column, 0, columns - 1)) {
        return NONE;
      }
      return cells[row * columns + column];
    }

    void copyFrom(Table other) {
      size = other.size;
      for (int i = 0; i < size * columns && i < cells.length && i < other.cells.length; i++) {
        cells[i] = other.cells[i];
      }
    }
  }

  /** The bodies that ran in the latest act. */
  private static final class Trace {
    final int[] kept = new int[20];
    int ran;

    void began(int body) {
      if (ran < kept.length) {
        kept[ran] = body;
      }
      ran++;
    }
  }

  /**
   * The clauses that a tape was read into. What a clause asks of a mark is kept with each sign of
   * combination behind what it combines, so that a few bits are enough to tell whether it holds.
   */
  private static final class Plate {
    private static final String WORDS = "wearmendrisksure";
    private static final int WORD_SIZE = 4;
    private static final int WEAR = 0, MEND = 1, RISK = 2;
    private static final String ASKED = "mkdxtv";
    private static final String RELATIONS = "<=>";
    private static final int NOT = -1, AND = -2, OR = -3;
    private static final int MOST_CLAUSES = 10;
    private static final int MOST_OPEN = 5;

    private final int[] words = new int[MOST_CLAUSES];
    private final int[] numbers = new int[MOST_CLAUSES];
    private final int[] ends = new int[MOST_CLAUSES];
    private final int[] codes = new int[MOST_SIGNS];
    private int clauseCount;
    private int codeCount;
    private int[] tape = new int[0];
    private int tapeSize;
    private int at;
    int wear = 20;
    int mending = 8;

    /** Reads the tape: -1, or the place of the fault; how far it was read is always where the fault is. */
    int readTape(int[] signs, int size) {
      tape = signs;
      tapeSize = Math.min(size, signs.length);
      at = 0;
      clauseCount = 0;
      codeCount = 0;
      wear = 20;
      mending = 8;
      for (int clause = 1; clause <= MOST_CLAUSES; clause++) {
        if (!readClause()) {
          return at;
        }
        if (at >= tapeSize) {
          return -1;
        }
        if (clause == MOST_CLAUSES || !skip(';')) {
          return at;
        }
      }
      return at;
    }

    private boolean readClause() {
      int word = readWord();
      if (word < 0 || !skip(' ')) {
        return false;
      }
      int n = readNumber();
      if (n < 0 || clauseCount >= MOST_CLAUSES) {
        return false;
      }
      if (word == WEAR) {
        wear = Math.max(1, n);
      } else if (word == MEND) {
        mending = n;
      } else if (!skip(' ') || !readEither(0)) {
        return false;
      }
      words[clauseCount] = word;
      numbers[clauseCount] = n;
      ends[clauseCount] = codeCount;
      clauseCount++;
      return true;
    }

    private int readWord() {
      for (int start = 0; start < WORDS.length(); start += WORD_SIZE) {
        if (skip(WORDS.charAt(start))) {
          for (int i = 1; i < WORD_SIZE; i++) {
            if (!skip(WORDS.charAt(start + i))) {
              return -1;
            }
          }
          return start / WORD_SIZE;
        }
      }
      return -1;
    }

    /** One or two digits; none behind a 0. -1, if there is none. */
    private int readNumber() {
      int n = -1;
      for (int digits = 0; digits < 2 && n != 0 && at < tapeSize; digits++) {
        int digit = tape[at] - '0';
        if (digit < 0 || digit > 9) {
          break;
        }
        n = n < 0 ? digit : n * 10 + digit;
        at++;
      }
      return n;
    }

    private boolean readEither(int open) {
      for (int terms = 1; terms <= MOST_SIGNS; terms++) {
        if (!readBoth(open)) {
          return false;
        }
        if (terms > 1) {
          keep(OR);
        }
        if (!skip('|')) {
          return true;
        }
      }
      return false;
    }

    private boolean readBoth(int open) {
      for (int terms = 1; terms <= MOST_SIGNS; terms++) {
        if (!readOne(open)) {
          return false;
        }
        if (terms > 1) {
          keep(AND);
        }
        if (!skip('&')) {
          return true;
        }
      }
      return false;
    }

    /** The signs that are open are looked at ahead of the next one: a sixth one is itself the fault. */
    private boolean readOne(int open) {
      if (open < MOST_OPEN) {
        if (skip('!')) {
          boolean read = readOne(open + 1);
          keep(NOT);
          return read;
        }
        if (skip('(')) {
          return readEither(open + 1) && skip(')');
        }
      }
      int asked = readOneOf(ASKED);
      int relation = asked < 0 ? -1 : readOneOf(RELATIONS);
      int n = relation < 0 ? -1 : readNumber();
      if (n < 0) {
        return false;
      }
      keep((asked * 3 + relation) * 100 + n);
      return true;
    }

    private int readOneOf(String signs) {
      int found = at < tapeSize ? signs.indexOf((char) tape[at]) : -1;
      if (found >= 0) {
        at++;
      }
      return found;
    }

    private boolean skip(char sign) {
      if (at >= tapeSize || tape[at] != sign) {
        return false;
      }
      at++;
      return true;
    }

    private void keep(int code) {
      if (codeCount < codes.length) {
        codes[codeCount] = code;
        codeCount++;
      }
    }

    int riskOf(Mark m, int tired) {
      int risk = tired / 5;
      int from = 0;
      for (int c = 0; c < clauseCount; c++) {
        if (words[c] >= RISK && holds(from, ends[c], m, tired)) {
          risk += words[c] == RISK ? numbers[c] : -numbers[c];
        }
        from = ends[c];
      }
      return Math.max(0, Math.min(99, risk));
    }

    /** What is found so far stands in the bits, the latest one lowest: 13 of them at most. */
    private boolean holds(int from, int to, Mark m, int tired) {
      int bits = 0;
      for (int i = from; i < to && i < codes.length; i++) {
        int code = codes[i];
        if (code >= 0) {
          bits = bits << 1 | (isSo(code, m, tired) ? 1 : 0);
        } else if (code == NOT) {
          bits ^= 1;
        } else {
          int latest = bits & 1;
          bits >>= 1;
          bits = code == AND ? bits & (~1 | latest) : bits | latest;
        }
      }
      return (bits & 1) == 1;
    }

    private static boolean isSo(int code, Mark m, int tired) {
      int n = code % 100;
      int value = valueOf(code / 300, m, tired);
      switch (code / 100 % 3) {
        case 0: return value < n;
        case 1: return value == n;
        default: return value > n;
      }
    }

    private static int valueOf(int asked, Mark m, int tired) {
      switch (asked) {
        case 0: return m.number;
        case 1: return m.kind;
        case 2: return m.depth;
        case 3: return m.place / 10;
        case 4: return tired / 10;
        default: return m.v;
      }
    }
  }

  private static class Mark {
    final int kind;
    final int number;
    final int v;
    final int place;
    int depth;
    boolean isCut;
    int flaw;
    int worn;
    int mended;

    Mark(int kind, int number, int v, int place, int depth) {
      this.kind = kind;
      this.number = number;
      this.v = v;
      this.place = place;
      this.depth = depth;
    }

    /** What can change; the other mark is the same one on another bench. */
    void copyFrom(Mark other) {
      depth = other.depth;
      isCut = other.isCut;
      flaw = other.flaw;
      worn = other.worn;
      mended = other.mended;
    }

    int needs() {
      return 3 * depth;
    }

    final int tiredBehindCut(int tired) {
      return moreTired(tired, needs() / 2);
    }

    int flawBy(int draw) {
      return 1 + Math.floorMod(draw, 3);
    }

    final int darkWorn(int w, int wear) {
      if (!isCut) {
        return 0;
      }
      int lost = mended + (wear > 0 ? w / wear : w);
      int faint = flaw == 3 ? 2 : 0;
      return Math.max(0, strength(w, lost) - faint);
    }

    /** How dark it is ahead of what its being too faint takes; may be below 0. */
    int strength(int w, int lost) {
      return depth - lost;
    }

    int cuts(int x, Trace trace) {
      trace.began(1);
      return x + number;
    }

    int prints(int x, Trace trace) {
      trace.began(2);
      return cuts(x, trace) - v;
    }

    int tells(int x, Trace trace) {
      trace.began(3);
      return prints(x, trace) * 2;
    }
  }

  private static class Line extends Mark {
    Line(int kind, int number, int v, int place, int depth) {
      super(kind, number, v, place, depth);
    }

    int needs() {
      return 2 * depth;
    }

    int strength(int w, int lost) {
      return super.strength(w, lost) + 1;
    }

    int cuts(int x, Trace trace) {
      trace.began(11);
      return super.cuts(x * 3, trace);
    }
  }

  private static class Letter extends Mark {
    Letter(int kind, int number, int v, int place, int depth) {
      super(kind, number, v, place, depth);
    }

    int needs() {
      return super.needs() + v;
    }

    int strength(int w, int lost) {
      return 2 * depth - lost;
    }

    int prints(int x, Trace trace) {
      trace.began(21);
      return -super.prints(x, trace);
    }
  }

  private static class Numeral extends Mark {
    Numeral(int kind, int number, int v, int place, int depth) {
      super(kind, number, v, place, depth);
    }

    int needs() {
      return super.needs() + 4;
    }

    int tells(int x, Trace trace) {
      trace.began(31);
      return super.tells(x, trace) ^ 7;
    }
  }

  private static final class Hatch extends Line {
    Hatch(int kind, int number, int v, int place, int depth) {
      super(kind, number, v, place, depth);
    }

    int needs() {
      return super.needs() * (v + 1);
    }

    int strength(int w, int lost) {
      return super.strength(w, lost) / 2 - 1;
    }

    int tells(int x, Trace trace) {
      trace.began(41);
      int told = super.tells(x - 1, trace);
      return told + cuts(2, trace);
    }
  }

  private static final class Turned extends Letter {
    Turned(int kind, int number, int v, int place, int depth) {
      super(kind, number, v, place, depth);
    }

    int flawBy(int draw) {
      int flaw = super.flawBy(draw);
      return flaw == 2 ? 1 : flaw;
    }

    int strength(int w, int lost) {
      return super.strength(w, lost) + (flaw == 1 ? 2 : 0);
    }

    int cuts(int x, Trace trace) {
      trace.began(51);
      return super.cuts(x, trace) ^ number;
    }
  }

  private static final class Told extends Numeral {
    private final int[] row = new int[4];

    Told(int kind, int number, int v, int place, int depth) {
      super(kind, number, v, place, depth);
    }

    void copyFrom(Mark other) {
      super.copyFrom(other);
      if (other instanceof Told t) {
        for (int k = 0; k < row.length && k < t.row.length; k++) {
          row[k] = t.row[k];
        }
      }
    }

    /** Keeps n as the k-th of its row, and answers what that was. */
    int tell(int k, int n) {
      if (!within(k, 0, row.length - 1)) {
        return NONE;
      }
      int was = row[k];
      row[k] = n;
      return was;
    }

    int strength(int w, int lost) {
      return super.strength(w, lost) + row[Math.floorMod(w, row.length)];
    }

    int prints(int x, Trace trace) {
      trace.began(61);
      return super.prints(x, trace) + v;
    }
  }
}
