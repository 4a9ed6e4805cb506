import java.math.BigInteger;
import java.util.ArrayDeque;
import java.util.ArrayList;
import java.util.Arrays;
import java.util.Deque;
import java.util.List;

/**
 * The document once more, in another way: clauses are evaluated from their text, faults found sign by
 * sign, orders by trying every row, thoughts on copies. Slow, and meant to be; RunsTest compares it
 * with MirrorPlate.
 */
public final class Oracle {
  private static final int[] ABOVE = {-1, 0, 0, 0, 1, 2, 3};
  private static final List<String> WORDS = List.of("wear", "mend", "risk", "sure");

  private static final class Mark implements Cloneable {
    int number, kind, v, place, depth, flaw, worn, mended;
    boolean cut;
    int[] row = new int[4];

    Mark twin() {
      try {
        Mark m = (Mark) clone();
        m.row = row.clone();
        return m;
      } catch (CloneNotSupportedException e) {
        throw new IllegalStateException(e);
      }
    }

    boolean is(int k) {
      for (int at = kind; at >= 0; at = ABOVE[at]) {
        if (at == k) {
          return true;
        }
      }
      return false;
    }

    int needs() {
      return switch (kind) {
        case 1 -> depth * 2;
        case 2, 5 -> depth * 3 + v;
        case 3, 6 -> depth * 3 + 4;
        case 4 -> depth * 2 * (v + 1);
        default -> depth * 3;
      };
    }

    int dark(int w, int wear) {
      if (!cut) {
        return 0;
      }
      int plain = depth - w / wear - mended;
      int dark = switch (kind) {
        case 1 -> plain + 1;
        case 2 -> plain + depth;
        case 4 -> (plain + 1) / 2 - 1;
        case 5 -> plain + depth + (flaw == 1 ? 2 : 0);
        case 6 -> plain + row[w % 4];
        default -> plain;
      };
      return Math.max(0, flaw == 3 ? dark - 2 : dark);
    }
  }

  private static final class State {
    int minute, prints, tired;
    List<Mark> marks = new ArrayList<>();
    List<String> plates = new ArrayList<>();
    String tape = "";
    List<int[]> seen = new ArrayList<>();
    List<int[]> plan = new ArrayList<>();
    List<int[]> book = new ArrayList<>();

    State twin() {
      State s = new State();
      s.minute = minute;
      s.prints = prints;
      s.tired = tired;
      for (Mark m : marks) {
        s.marks.add(m.twin());
      }
      s.plates.addAll(plates);
      s.tape = tape;
      s.seen.addAll(seen);
      s.plan.addAll(plan);
      s.book.addAll(book);
      return s;
    }

    String[] clauses() {
      return plates.isEmpty() ? new String[0] : plates.get(plates.size() - 1).split(";");
    }

    int last(String word, int without) {
      int n = without;
      for (String clause : clauses()) {
        if (clause.startsWith(word)) {
          n = Integer.parseInt(clause.substring(5));
        }
      }
      return n;
    }

    int wear() {
      return Math.max(1, last("wear", 20));
    }

    int mend() {
      return last("mend", 8);
    }

    int risk(Mark m, int hand) {
      int sum = hand / 5;
      for (String clause : clauses()) {
        String[] parts = clause.split(" ");
        if (parts.length == 3 && value(parts[2], m, hand)) {
          sum += Integer.parseInt(parts[1]) * (parts[0].equals("risk") ? 1 : -1);
        }
      }
      return sum < 0 ? 0 : sum > 99 ? 99 : sum;
    }

    boolean prints(Mark m, int more) {
      return m.dark(m.worn + more, wear()) > 0;
    }

    int good(List<Mark> whose) {
      List<Mark> print = whose.stream().filter(m -> prints(m, 0)).toList();
      if (print.isEmpty()) {
        return -5;
      }
      int most = 0;
      for (int n = 0; n <= 999; n++) {
        int more = n;
        if (print.stream().allMatch(m -> prints(m, more))) {
          most = n;
        }
      }
      return most;
    }

    int cut(Mark m, int d) {
      int flaw = m.kind == 5 ? new int[] {1, 1, 3}[d % 3] : d % 3 + 1;
      m.flaw = d < risk(m, tired) ? flaw : 0;
      minute += m.needs();
      tired = Math.min(99, tired + m.needs() / 2);
      m.cut = true;
      return m.flaw;
    }

    void rest(int n) {
      minute += n;
      tired = Math.max(0, tired - n - n);
    }

    void mend(Mark m) {
      minute += mend();
      m.flaw = 0;
      m.mended = Math.min(9, m.mended + 1);
      m.worn = 0;
      tired = Math.min(99, tired + 5);
    }

    void over(Mark m) {
      minute += m.needs() / 2;
      m.worn = 0;
      m.depth = Math.min(9, m.depth + 1);
      tired = Math.min(99, tired + 3);
    }

    List<Mark> uncut() {
      return marks.stream().filter(m -> !m.cut).toList();
    }

    List<Mark> areCut() {
      return marks.stream().filter(m -> m.cut).toList();
    }
  }

  /** Whether an expression holds, by splitting its text where no bracket is open. */
  private static boolean value(String e, Mark m, int hand) {
    for (char sign : new char[] {'|', '&'}) {
      int open = 0;
      for (int i = 0; i < e.length(); i++) {
        char c = e.charAt(i);
        open += c == '(' ? 1 : c == ')' ? -1 : 0;
        if (open == 0 && c == sign) {
          boolean left = value(e.substring(0, i), m, hand);
          boolean right = value(e.substring(i + 1), m, hand);
          return sign == '|' ? left || right : left && right;
        }
      }
    }
    if (e.charAt(0) == '!') {
      return !value(e.substring(1), m, hand);
    }
    if (e.charAt(0) == '(') {
      return value(e.substring(1, e.length() - 1), m, hand);
    }
    int n = Integer.parseInt(e.substring(2));
    int is = switch (e.charAt(0)) {
      case 'm' -> m.number;
      case 'k' -> m.kind;
      case 'd' -> m.depth;
      case 'x' -> m.place / 10;
      case 't' -> hand / 10;
      default -> m.v;
    };
    return switch (e.charAt(1)) {
      case '<' -> is < n;
      case '=' -> is == n;
      default -> is > n;
    };
  }

  /** -1, or the place of the fault, by an automaton with a stack of what is open. */
  static int fault(String tape) {
    String mode = "word";
    String word = "";
    int clauses = 1;
    Deque<Character> open = new ArrayDeque<>();
    for (int i = 0; i < tape.length(); i++) {
      char c = tape.charAt(i);
      boolean digit = c >= '0' && c <= '9';
      boolean inTest = mode.startsWith("test");
      boolean behindNumber = mode.endsWith("1") || mode.endsWith("2");
      if (behindNumber && inTest || mode.equals("closed")) {
        while (!open.isEmpty() && open.peek() == '!') {
          open.pop();
        }
      }
      boolean mayEnd = mode.equals("closed") || inTest && behindNumber
          || mode.startsWith("n") && behindNumber && (word.equals("wear") || word.equals("mend"));
      if (mode.equals("word")) {
        String longer = word + c;
        if (WORDS.stream().noneMatch(w -> w.startsWith(longer))) {
          return i;
        }
        word = longer;
        mode = WORDS.contains(word) ? "blank" : "word";
      } else if (mode.equals("blank") && c == ' ') {
        mode = "n0";
      } else if (digit && (mode.equals("n0") || mode.equals("test0"))) {
        mode = mode.substring(0, mode.length() - 1) + (c == '0' ? "2" : "1");
      } else if (digit && (mode.equals("n1") || mode.equals("test1"))) {
        mode = mode.substring(0, mode.length() - 1) + "2";
      } else if (c == ' ' && mode.startsWith("n") && behindNumber && !mayEnd) {
        mode = "one";
      } else if (mode.equals("one") && (c == '!' || c == '(') && open.size() < 5) {
        open.push(c);
      } else if (mode.equals("one") && "mkdxtv".indexOf(c) >= 0) {
        mode = "relation";
      } else if (mode.equals("relation") && "<=>".indexOf(c) >= 0) {
        mode = "test0";
      } else if (mayEnd && !mode.startsWith("n") && (c == '&' || c == '|')) {
        mode = "one";
      } else if (mayEnd && c == ')' && !open.isEmpty()) {
        open.pop();
        mode = "closed";
      } else if (mayEnd && c == ';' && open.isEmpty() && clauses < 10) {
        clauses++;
        mode = "word";
        word = "";
      } else {
        return i;
      }
    }
    while (!open.isEmpty() && open.peek() == '!' && !mode.equals("one") && !mode.equals("relation")) {
      open.pop();
    }
    boolean ended = mode.equals("closed") || mode.equals("test1") || mode.equals("test2")
        || (mode.equals("n1") || mode.equals("n2")) && (word.equals("wear") || word.equals("mend"));
    return ended && open.isEmpty() ? -1 : tape.length();
  }

  private State s = new State();
  private State image = null;
  private List<Integer> trace = new ArrayList<>();

  private Mark at(int mark) {
    return mark >= 0 && mark < s.marks.size() ? s.marks.get(mark) : null;
  }

  private static boolean in(int n, int least, int most) {
    return n >= least && n <= most;
  }

  private static long fraction(long above, long below, int part) {
    BigInteger gcd = BigInteger.valueOf(above).gcd(BigInteger.valueOf(below));
    return (part == 0 ? above : below) / gcd.longValue();
  }

  private static int bits(List<Mark> marks) {
    return marks.stream().mapToInt(m -> 1 << m.number).sum();
  }

  public int feed(int sign) {
    if (sign < 0 || sign > 127) return -2;
    if (s.tape.length() == 100) return -4;
    s.tape += (char) sign;
    return s.tape.length();
  }

  public int plate() {
    if (s.plates.size() == 5) return -4;
    String text = s.tape;
    s.tape = "";
    int fault = fault(text);
    if (fault >= 0) return -10 - fault;
    s.plates.add(text);
    return s.plates.size() - 1;
  }

  public int mark(int kind, int v, int place, int depth) {
    if (!in(kind, 0, 6)) return -1;
    if (!in(v, 0, 9) || !in(place, 0, 99) || !in(depth, 1, 9)) return -2;
    if (s.marks.size() == 8) return -4;
    Mark m = new Mark();
    m.number = s.marks.size();
    m.kind = kind;
    m.v = v;
    m.place = place;
    m.depth = depth;
    s.marks.add(m);
    return m.number;
  }

  public int of(int mark, int what) {
    Mark m = at(mark);
    if (m == null || !in(what, 0, 10)) return -1;
    return new int[] {m.kind, m.v, m.place, m.depth, m.cut ? 1 : 0, m.flaw, m.worn, m.mended,
        s.risk(m, s.tired), m.needs(), m.dark(m.worn, s.wear())}[what];
  }

  public int row(int mark, int k, int n) {
    Mark m = at(mark);
    if (m == null || !in(k, 0, 3)) return -1;
    if (!in(n, 0, 9)) return -2;
    if (m.kind != 6) return -3;
    int was = m.row[k];
    m.row[k] = n;
    return was;
  }

  public int told(int what) {
    return in(what, 0, 4) ? new int[] {s.minute, s.prints, s.tired, s.wear(), s.mend()}[what] : -1;
  }

  public int cut(int mark, int d) {
    Mark m = at(mark);
    if (m == null) return -1;
    if (!in(d, 0, 99)) return -2;
    if (m.cut || s.minute > 99000) return -3;
    return s.cut(m, d);
  }

  public int rest(int n) {
    if (!in(n, 0, 60)) return -2;
    if (s.minute > 99000) return -3;
    s.rest(n);
    return s.tired;
  }

  public int mend(int mark) {
    Mark m = at(mark);
    if (m == null) return -1;
    if (!m.cut || m.mended == 9 || s.minute > 99000) return -3;
    s.mend(m);
    return m.dark(0, s.wear());
  }

  public int over(int mark) {
    Mark m = at(mark);
    if (m == null) return -1;
    if (!m.cut || s.minute > 99000) return -3;
    s.over(m);
    return m.dark(0, s.wear());
  }

  public int print(int n) {
    if (!in(n, 0, 999)) return -2;
    s.prints = Math.min(9999, s.prints + n);
    for (Mark m : s.areCut()) m.worn = Math.min(9999, m.worn + n);
    return (int) s.marks.stream().filter(m -> s.prints(m, 0)).count();
  }

  public int dark(int mark, int n) {
    Mark m = at(mark);
    if (m == null) return -1;
    return in(n, 0, 999) ? m.dark(m.worn + n, s.wear()) : -2;
  }

  public int good(int mark) {
    if (mark == -1) return s.good(s.marks);
    return at(mark) == null ? -1 : s.good(List.of(at(mark)));
  }

  public int first() {
    int first = -5;
    int least = 1000;
    for (Mark m : s.marks) {
      for (int n = 0; n < least && s.prints(m, 0); n++) {
        if (!s.prints(m, n)) {
          least = n;
          first = m.number;
        }
      }
    }
    return first;
  }

  public int faded(int n) {
    if (!in(n, 0, 999)) return -2;
    return bits(s.marks.stream().filter(m -> s.prints(m, 0) && !s.prints(m, n)).toList());
  }

  private int[] bestRow = null;
  private int bestSum = 0;

  private void tryRows(List<Mark> left, List<Integer> row, int hand, int sum) {
    if (left.isEmpty()) {
      if (bestRow == null || sum < bestSum) {
        bestRow = row.stream().mapToInt(i -> i).toArray();
        bestSum = sum;
      }
      return;
    }
    for (Mark m : left) {
      List<Mark> others = new ArrayList<>(left);
      others.remove(m);
      List<Integer> longer = new ArrayList<>(row);
      longer.add(m.number);
      tryRows(others, longer, Math.min(99, hand + m.needs() / 2), sum + s.risk(m, hand));
    }
  }

  public int order(int k) {
    if (!in(k, -1, 5)) return -1;
    if (s.uncut().size() > 6) return -9;
    bestRow = null;
    tryRows(s.uncut(), List.of(), s.tired, 0);
    if (k == -1) return bestSum;
    return k < bestRow.length ? bestRow[k] : -5;
  }

  private int sum(Mark restedAhead) {
    int hand = s.tired;
    int sum = 0;
    for (Mark m : s.uncut()) {
      if (m == restedAhead) hand = Math.max(0, hand - 20);
      sum += s.risk(m, hand);
      hand = Math.min(99, hand + m.needs() / 2);
    }
    return sum;
  }

  public int rested() {
    int ahead = -5;
    int least = sum(null);
    for (Mark m : s.uncut()) {
      if (sum(m) < least) {
        least = sum(m);
        ahead = m.number;
      }
    }
    return ahead;
  }

  private int[] firstRisks() {
    State thought = s.twin();
    return thought.uncut().stream().limit(4).mapToInt(m -> {
      int risk = thought.risk(m, thought.tired);
      thought.cut(m, 99);
      return risk;
    }).toArray();
  }

  public long flaws(int part) {
    if (!in(part, 0, 1)) return Long.MIN_VALUE;
    return fraction(Arrays.stream(firstRisks()).sum(), 100, part);
  }

  public long clean(int part) {
    if (!in(part, 0, 1)) return Long.MIN_VALUE;
    long above = 1;
    long below = 1;
    for (int risk : firstRisks()) {
      above *= 100 - risk;
      below *= 100;
    }
    return fraction(above, below, part);
  }

  public int mirror(int mark) {
    return at(mark) == null ? -1 : 99 - at(mark).place;
  }

  private List<Mark> near(Mark m) {
    return s.marks.stream().filter(o -> o != m && Math.abs(o.place - m.place) <= 3).toList();
  }

  public int beside(int mark) {
    return at(mark) == null ? -1 : bits(near(at(mark)));
  }

  public int crowd() {
    int crowd = -5;
    for (Mark m : s.marks) {
      if (crowd < 0 || near(m).size() > near(at(crowd)).size()) crowd = m.number;
    }
    return crowd;
  }

  public int room(int depth) {
    if (!in(depth, 1, 9)) return -2;
    boolean[] taken = new boolean[100];
    for (Mark m : s.marks) {
      for (int p = Math.max(0, m.place - depth + 1); p <= 99 && p < m.place + depth; p++) taken[p] = true;
    }
    for (int p = 0; p < 100; p++) if (!taken[p]) return p;
    return -5;
  }

  public int proof(int e) {
    if (!in(e, 0, 9)) return -2;
    return bits(s.marks.stream().filter(m -> m.flaw > 0 && m.dark(m.worn, s.wear()) >= 6 - e).toList());
  }

  public int proofs() {
    for (int e = 0; e < 10; e++) {
      if (proof(e) == bits(s.marks.stream().filter(m -> m.flaw > 0).toList())) return e;
    }
    return -5;
  }

  public int mends() {
    State thought = s.twin();
    int bits = 0;
    for (Mark m : thought.marks) {
      if (m.flaw > 0) {
        thought.mend(m);
        if (thought.prints(m, 0)) bits |= 1 << m.number;
      }
    }
    return bits;
  }

  public int worth(int mark) {
    if (at(mark) == null) return -1001;
    if (!at(mark).cut) return -1002;
    State thought = s.twin();
    thought.over(thought.marks.get(mark));
    return Math.max(0, thought.good(thought.marks)) - Math.max(0, s.good(s.marks));
  }

  public int best() {
    int best = -5;
    int most = 0;
    for (Mark m : s.areCut()) {
      int worth = worth(m.number);
      if (worth > most) {
        most = worth;
        best = m.number;
      }
    }
    return best;
  }

  public int see(int mark, int dark) {
    if (mark == -1) {
      s.seen.clear();
      return 0;
    }
    if (at(mark) == null) return -1;
    if (!in(dark, 0, 30)) return -2;
    if (s.seen.size() == 6) return -4;
    s.seen.add(new int[] {mark, dark});
    return s.seen.size();
  }

  public int ran(int what) {
    if (!in(what, 0, 1)) return -1;
    List<Integer> all = new ArrayList<>();
    for (int n = 0; n <= 999; n++) {
      int more = n;
      if (s.seen.stream().allMatch(r -> dark(r[0], more) == r[1])) all.add(n);
    }
    return what == 0 ? all.size() : all.isEmpty() ? -5 : all.get(0);
  }

  public int hand(int d) {
    if (!in(d, 0, 99)) return -2;
    int bits = 0;
    for (Mark m : s.uncut()) {
      State thought = s.twin();
      if (thought.cut(thought.marks.get(m.number), d) > 0) bits |= 1 << m.number;
    }
    return bits;
  }

  public int errs() {
    int[] many = new int[4];
    for (Mark m : s.areCut()) many[m.flaw]++;
    int most = Math.max(many[1], Math.max(many[2], many[3]));
    if (most == 0) return 0;
    return many[1] == most ? 1 : many[2] == most ? 2 : 3;
  }

  public long odds(int q, int n, int part) {
    if (!in(q, 0, 30) || !in(n, 0, 999) || !in(part, 0, 1) || s.areCut().isEmpty()) return Long.MIN_VALUE;
    long dark = s.areCut().stream().filter(m -> m.dark(m.worn + n, s.wear()) >= q).count();
    return fraction(dark, s.areCut().size(), part);
  }

  public long mean(int n, int part) {
    if (!in(n, 0, 999) || !in(part, 0, 1) || s.areCut().isEmpty()) return Long.MIN_VALUE;
    long dark = s.areCut().stream().mapToInt(m -> m.dark(m.worn + n, s.wear())).sum();
    return fraction(dark, s.areCut().size(), part);
  }

  public int plan(int what, int mark) {
    if (what == -1) {
      s.plan.clear();
      return 0;
    }
    if (!in(what, 0, 4) || what < 3 && at(mark) == null) return -1;
    if (s.plan.size() == 8) return -4;
    s.plan.add(new int[] {what, mark});
    return s.plan.size();
  }

  public int done(int what) {
    if (!in(what, 0, 2)) return -1;
    State thought = s.twin();
    for (int[] r : s.plan) {
      if (r[0] == 3) {
        thought.rest(10);
      } else if (r[0] == 4) {
        for (Mark m : thought.areCut()) m.worn += 50;
      } else {
        Mark m = thought.marks.get(r[1]);
        if (r[0] == 0 && !m.cut) thought.cut(m, 99);
        else if (r[0] == 1 && m.cut) thought.mend(m);
        else if (r[0] == 2 && m.cut) thought.over(m);
      }
    }
    if (what == 0) return thought.minute - s.minute;
    if (what == 1) return thought.tired;
    return (int) thought.marks.stream().filter(m -> thought.prints(m, 0)).count();
  }

  public int book(int mark, int n, int dark) {
    if (mark == -1) {
      s.book.clear();
      return 0;
    }
    if (at(mark) == null) return -1;
    if (!in(n, 0, 999) || !in(dark, 0, 30)) return -2;
    if (s.book.size() == 8) return -4;
    s.book.add(new int[] {mark, n, dark});
    return s.book.size();
  }

  public int looked() {
    for (int i = 0; i < s.book.size(); i++) {
      int[] r = s.book.get(i);
      if (dark(r[0], r[1]) != r[2]) return i;
    }
    return -5;
  }

  /** The body of a kind for an act, looked for from that kind upward: kind * 10 + act, or act for MARK. */
  private int body(int kind, int act, Mark m, int x) {
    int at = kind;
    while (!(at == 0 || act == 0 && (at == 1 || at == 5) || act == 1 && (at == 2 || at == 6)
        || act == 2 && (at == 3 || at == 4))) {
      at = ABOVE[at];
    }
    trace.add(at == 0 ? act + 1 : at * 10 + 1);
    int up = ABOVE[at];
    return switch (at) {
      case 1 -> body(up, 0, m, x * 3);
      case 2 -> -body(up, 1, m, x);
      case 3 -> body(up, 2, m, x) ^ 7;
      case 4 -> body(up, 2, m, x - 1) + body(m.kind, 0, m, 2);
      case 5 -> body(up, 0, m, x) ^ m.number;
      case 6 -> body(up, 1, m, x) + m.v;
      default -> act == 0 ? x + m.number : act == 1 ? body(m.kind, 0, m, x) - m.v : body(m.kind, 1, m, x) * 2;
    };
  }

  public int act(int mark, int act, int x) {
    trace = new ArrayList<>();
    return at(mark) == null || !in(act, 0, 2) ? 0 : body(at(mark).kind, act, at(mark), x);
  }

  public int trace(int i) {
    return i >= 0 && i < Math.min(20, trace.size()) ? trace.get(i) : -1;
  }

  public int as(int mark, int k) {
    if (at(mark) == null || !in(k, 0, 6)) return -1;
    return at(mark).is(k) ? at(mark).v : -6;
  }

  public int image() {
    image = s.twin();
    return s.marks.size();
  }

  public int undo() {
    if (image == null) return -3;
    s = image.twin();
    return s.marks.size();
  }

  public int count(int what) {
    if (!in(what, 0, 6)) return -1;
    return new int[] {s.marks.size(), s.plates.size(), s.seen.size(), s.plan.size(), s.book.size(),
        s.tape.length(), trace.size()}[what];
  }
}
