/** Promises 1 to 3: a new object, THE TAPE, PLATES; and what WEAR, MEND and RISK are by them. */
public final class PlateTest {
  private static final String RISK = "risk 5 ";

  private static void newObject() {
    MirrorPlate x = new MirrorPlate();
    for (int what = 0; what <= 6; what++) {
      Check.due("new: count(" + what + ")", x.count(what), 0);
    }
    int[] told = {0, 0, 0, 20, 8};
    for (int what = 0; what < told.length; what++) {
      Check.due("new: told(" + what + ")", x.told(what), told[what]);
    }
    Check.due("new: of(0, 0)", x.of(0, 0), MirrorPlate.NONE);
    Check.due("new: undo()", x.undo(), MirrorPlate.STATE);
    Check.due("new: trace(0)", x.trace(0), MirrorPlate.NONE);
    Check.due("new: plate() of an empty tape", x.plate(), -10);
    MirrorPlate y = new MirrorPlate();
    y.mark(0, 0, 0, 1);
    Check.due("another object has its own marks", x.count(0), 0);
  }

  private static void feeding() {
    MirrorPlate x = new MirrorPlate();
    Check.due("feed(0)", x.feed(0), 1);
    Check.due("feed(127)", x.feed(127), 2);
    Check.due("feed(-1)", x.feed(-1), MirrorPlate.BAD);
    Check.due("feed(128)", x.feed(128), MirrorPlate.BAD);
    Check.due("feed(least int)", x.feed(Integer.MIN_VALUE), MirrorPlate.BAD);
    Check.due("feed(most int)", x.feed(Integer.MAX_VALUE), MirrorPlate.BAD);
    Check.due("count(5) behind refusals", x.count(5), 2);
    for (int size = 3; size <= 100; size++) {
      Check.due("feed(97), the " + size + "th", x.feed(97), size);
    }
    Check.due("feed(97), the 101st", x.feed(97), MirrorPlate.FULL);
    Check.due("feed(128) on a full tape", x.feed(128), MirrorPlate.BAD);
    Check.due("count(5) of a full tape", x.count(5), 100);
  }

  private static void fault(String text, int place) {
    MirrorPlate x = new MirrorPlate();
    Check.due("plate() of '" + text + "'", Check.plate(x, text), -10 - place);
    Check.due("count(5) behind the fault of '" + text + "'", x.count(5), 0);
    Check.due("count(1) behind the fault of '" + text + "'", x.count(1), 0);
  }

  private static void reads(String text) {
    MirrorPlate x = new MirrorPlate();
    Check.due("plate() of '" + text + "'", Check.plate(x, text), 0);
    Check.due("count(5) behind '" + text + "'", x.count(5), 0);
    Check.due("count(1) behind '" + text + "'", x.count(1), 1);
  }

  private static void clausesThatAreRead() {
    reads("wear 0");
    reads("mend 99");
    reads("wear 5;mend 6;risk 7 m=1;sure 8 k=2");
    for (String letter : new String[] {"m", "k", "d", "x", "t", "v"}) {
      for (String relation : new String[] {"<", "=", ">"}) {
        reads(RISK + letter + relation + "0");
        reads("sure 99 " + letter + relation + "99");
      }
    }
    reads(RISK + "m=1|m=2&m=3|!(m=4|m=5)&m=6");
    reads(RISK + "((((((".substring(1) + "m=1" + "))))))".substring(1));
    reads(RISK + "!!!!!m=1");
    reads(RISK + "!!!!!m=1&!!!!!m=2|!!!!!m=3");
    reads(RISK + "!(!(!m=1))");
    reads(RISK + "(((((m=1)))))&(((((m=1)))))");
    reads(RISK + "((!(!m=1)&!(m=2)))");
    reads("wear 1;wear 1;wear 1;wear 1;wear 1;wear 1;wear 1;wear 1;wear 1;wear 1");
    reads(RISK + "m=1&m=1&m=1&m=1&m=1&m=1&m=1&m=1&m=1&m=1&m=1&m=1&m=1&m=1&m=1&m=1&m=1&m=1&m=1&m=1&m=1&m=1&m=12");
  }

  private static void faults() {
    fault("", 0);
    fault("x", 0);
    fault("Wear 5", 0);
    fault(" wear 5", 0);
    fault(";wear 5", 0);
    fault("w", 1);
    fault("weir 5", 2);
    fault("wear", 4);
    fault("wear5", 4);
    fault("wears 5", 4);
    fault("wear ", 5);
    fault("wear  5", 5);
    fault("wear x", 5);
    fault("wear -1", 5);
    fault("wear /", 5);
    fault("wear :", 5);
    fault("wear 5/", 6);
    fault("wear 5:", 6);
    fault("wear 00", 6);
    fault("wear 05", 6);
    fault("wear 5 ", 6);
    fault("wear 5 m=1", 6);
    fault("wear 123", 7);
    fault("wear 5;", 7);
    fault("wear 5;;", 7);
    fault("wear 5; mend 6", 7);
    fault("mend 5,wear 5", 6);
    fault("men 5", 3);
    fault("m=1", 1);
    fault("rusk 5 m=1", 1);
    fault("sire 5 m=1", 1);
    fault("risk 5", 6);
    fault("risk 5;", 6);
    fault("risk 5m=1", 6);
    fault("risk m=1", 5);
    fault(RISK, 7);
    fault(RISK + " m=1", 7);
    fault(RISK + "q=1", 7);
    fault(RISK + "m", 8);
    fault(RISK + "m1", 8);
    fault(RISK + "m!1", 8);
    fault(RISK + "m=", 9);
    fault(RISK + "m=x", 9);
    fault(RISK + "m==1", 9);
    fault(RISK + "m=01", 10);
    fault(RISK + "m=123", 11);
    fault(RISK + "m=1 ", 10);
    fault(RISK + "m=1m=2", 10);
    fault(RISK + "m=1&", 11);
    fault(RISK + "m=1|", 11);
    fault(RISK + "m=1&&m=2", 11);
    fault(RISK + "m=1|&m=2", 11);
    fault(RISK + "m=1)", 10);
    fault(RISK + "(m=1", 11);
    fault(RISK + "(m=1;", 11);
    fault(RISK + "(m=1))", 12);
    fault(RISK + "()", 8);
    fault(RISK + "!", 8);
    fault(RISK + "!&", 8);
    fault(RISK + "(m=1)m=2", 12);
    fault(RISK + "(m=1)(m=2)", 12);
    fault(RISK + "!m=1!m=2", 11);
    fault(RISK + "!!!!!!m=1", 12);
    fault(RISK + "((((((m=1", 12);
    fault(RISK + "!(!(!(m=1", 12);
    fault(RISK + "!(!(!!m=1", 12);
    fault(RISK + "(m=1&((((m=2&!m=3))))", 20);
    fault("wear 1;wear 1;wear 1;wear 1;wear 1;wear 1;wear 1;wear 1;wear 1;wear 1;wear 1", 69);
    fault("wear 1;wear 1;wear 1;wear 1;wear 1;wear 1;wear 1;wear 1;wear 1;wear 1;", 69);
    fault(RISK + "m=1&m=1&m=1&m=1&m=1&m=1&m=1&m=1&m=1&m=1&m=1&m=1&m=1&m=1&m=1&m=1&m=1&m=1&m=1&m=1&m=1&m=1&m=1&m", 100);
    fault("\0", 0);
    fault("wear\0005", 4);
  }

  private static void theNewestHolds() {
    MirrorPlate x = new MirrorPlate();
    Check.due("plate 0", Check.plate(x, "wear 3;wear 7;mend 4;mend 5"), 0);
    Check.due("told(3): the last n", x.told(3), 7);
    Check.due("told(4): the last n", x.told(4), 5);
    Check.due("a fault", Check.plate(x, "wear 9;mend 9;risk"), -10 - 18);
    Check.due("told(3): the one that held holds", x.told(3), 7);
    Check.due("told(4): the one that held holds", x.told(4), 5);
    Check.due("plate 1", Check.plate(x, "wear 0;mend 0"), 1);
    Check.due("told(3): 1, if less", x.told(3), 1);
    Check.due("told(4): 0 is 0", x.told(4), 0);
    Check.due("plate 2", Check.plate(x, "risk 9 m=0"), 2);
    Check.due("told(3) without", x.told(3), 20);
    Check.due("told(4) without", x.told(4), 8);
    Check.due("plate 3", Check.plate(x, "wear 99"), 3);
    Check.due("plate 4", Check.plate(x, "mend 1"), 4);
    Check.feed(x, "wear 2");
    Check.due("a sixth plate", x.plate(), MirrorPlate.FULL);
    Check.due("the tape stays", x.count(5), 6);
    Check.due("feed goes on behind it", x.feed('!'), 7);
    Check.due("FULL ahead of a fault", x.plate(), MirrorPlate.FULL);
    Check.due("count(1)", x.count(1), 5);
    Check.due("told(4) of the fifth", x.told(4), 1);
  }

  /** What was read ahead of a fault is not in the next plate. */
  private static void behindAFault() {
    MirrorPlate x = new MirrorPlate();
    x.mark(0, 0, 0, 5);
    for (int times = 0; times < 4; times++) {
      Check.due("a fault at its end", Check.plate(x, "wear 9;mend 9;risk 50 d>0;risk 9 d>0&d>0&d>0&d>0&d>0&d>0&d>0&d>0&d>0&d>0&d>0&d>0&d>0;"), -10 - 85);
    }
    Check.due("RISK", x.of(0, 8), 0);
    Check.due("told(3)", x.told(3), 20);
    x.image();
    Check.due("a plate that asks for something else", Check.plate(x, "risk 7 m=9;risk 4 m=0"), 0);
    Check.due("RISK by that plate alone", x.of(0, 8), 4);
    x.undo();
    Check.due("plate 0", Check.plate(x, "risk 7 m=0&d=5&d=5&d=5&d=5&d=5&d=5&d=5&d=5&d=5&d=5&d=5&d=5&d=5&d=5&d=5&d=5&v=0|m=9&m=9"), 0);
    Check.due("RISK by the next plate alone", x.of(0, 8), 7);
    Check.due("told(3) without", x.told(3), 20);
    Check.due("told(4) without", x.told(4), 8);
  }

  private static int risk(String clauses, int mark) {
    MirrorPlate x = new MirrorPlate();
    x.mark(3, 7, 45, 6);
    x.mark(4, 2, 49, 1);
    x.mark(0, 0, 99, 9);
    Check.due("plate() of '" + clauses + "'", Check.plate(x, clauses), 0);
    return x.of(mark, 8);
  }

  private static void risks(String clauses, int zero, int one, int two) {
    Check.due("RISK of mark 0 by " + clauses, risk(clauses, 0), zero);
    Check.due("RISK of mark 1 by " + clauses, risk(clauses, 1), one);
    Check.due("RISK of mark 2 by " + clauses, risk(clauses, 2), two);
  }

  private static void whatIsAsked() {
    risks("wear 5", 0, 0, 0);
    risks("risk 50 m=0", 50, 0, 0);
    risks("risk 50 m<1", 50, 0, 0);
    risks("risk 50 m>1", 0, 0, 50);
    risks("risk 50 k=3", 50, 0, 0);
    risks("risk 50 k>3", 0, 50, 0);
    risks("risk 50 k=1", 0, 0, 0);
    risks("risk 50 d<6", 0, 50, 0);
    risks("risk 50 d=6", 50, 0, 0);
    risks("risk 50 d>6", 0, 0, 50);
    risks("risk 50 x=4", 50, 50, 0);
    risks("risk 50 x>8", 0, 0, 50);
    risks("risk 50 x<4", 0, 0, 0);
    risks("risk 50 v=7", 50, 0, 0);
    risks("risk 50 v<7", 0, 50, 50);
    risks("risk 50 t=0", 50, 50, 50);
    risks("risk 50 t<1&m=2", 0, 0, 50);
    risks("risk 50 t>0", 0, 0, 0);
    risks("risk 50 d<10", 50, 50, 50);
    risks("risk 50 m<0", 0, 0, 0);
    risks("risk 50 !m<0", 50, 50, 50);
    risks("risk 50 m<0|m=1", 0, 50, 0);
    risks("risk 50 m=0|m=0&m<0", 50, 0, 0);
    risks("risk 50 m=0|!(m=1|m<0)&!m=2", 50, 0, 0);
    risks("risk 50 m<99", 50, 50, 50);
    risks("risk 50 v<99&x<99&d<99&t<99&k<99", 50, 50, 50);
    risks("risk 50 v=99|v=98|v>98|v>99", 0, 0, 0);
  }

  private static void howItIsCombined() {
    risks("risk 50 m=0|m=1&m=2", 50, 0, 0);
    risks("risk 50 m=1&m=2|m=0", 50, 0, 0);
    risks("risk 50 (m=0|m=1)&m=1", 0, 50, 0);
    risks("risk 50 m=1&(m=2|m=1)", 0, 50, 0);
    risks("risk 50 !m=1&m=2", 0, 0, 50);
    risks("risk 50 !(m=1&m=2)", 50, 50, 50);
    risks("risk 50 !(m=1|m=2)", 50, 0, 0);
    risks("risk 50 !!m=1", 0, 50, 0);
    risks("risk 50 !!!m=1", 50, 0, 50);
    risks("risk 50 m=0|m=1|m=2", 50, 50, 50);
    risks("risk 50 m=0&k=3&d=6&x=4&v=7", 50, 0, 0);
    risks("risk 50 m=0&k=3&d=6&x=4&v=8", 0, 0, 0);
    risks("risk 50 ((m=1|(m=2&!k=0)))|!(!m=0)", 50, 50, 0);
    risks("risk 50 m=0&m=1|m=1&k=4|m=2&k=4", 0, 50, 0);
  }

  private static void howTheyAreSummed() {
    risks("risk 40 m=0;sure 15 m=0;risk 2 k=3", 27, 0, 0);
    risks("risk 60 m=0;risk 60 m=0;risk 98 m=1;risk 1 m=1", 99, 99, 0);
    risks("risk 99 m=0;risk 99 m=0;sure 99 m=0", 99, 0, 0);
    risks("sure 50 m=0;risk 70 m=0;sure 9 m=1", 20, 0, 0);
    risks("sure 70 m=0;risk 50 m=0", 0, 0, 0);
    risks("risk 0 m=0;sure 0 m=1", 0, 0, 0);
    risks("wear 9;risk 10 m=0;mend 9;risk 20 m=1", 10, 20, 0);
    risks("risk 1 m=0;risk 2 m=0;risk 3 m=0;risk 4 m=0;risk 5 m=0;risk 6 m=0;risk 7 m=0;risk 8 m=0;risk 9 m=0", 45, 0, 0);
  }

  private static void tens() {
    MirrorPlate x = new MirrorPlate();
    int[] places = {0, 9, 10, 19, 50, 59, 90, 99};
    for (int place : places) {
      x.mark(1, 0, place, 1);
    }
    Check.plate(x, "risk 10 x=0;risk 20 x=1;risk 30 x=5;risk 40 x=9");
    int[] want = {10, 10, 20, 20, 30, 30, 40, 40};
    for (int i = 0; i < places.length; i++) {
      Check.due("RISK at place " + places[i], x.of(i, 8), want[i]);
    }
    MirrorPlate y = new MirrorPlate();
    y.mark(0, 0, 0, 6);
    y.mark(1, 0, 0, 1);
    y.mark(0, 0, 0, 6);
    Check.plate(y, "risk 50 t=1;risk 90 t=2");
    y.cut(0, 99);
    Check.due("TIRED 9: t is 0", y.of(0, 8), 1);
    y.cut(1, 99);
    Check.due("TIRED 10: t is 1", y.of(0, 8), 52);
    y.cut(2, 99);
    Check.due("TIRED 19: t is 1", y.of(0, 8), 53);
  }

  private static void tiredness() {
    MirrorPlate x = new MirrorPlate();
    x.mark(0, 0, 0, 9);
    x.mark(0, 0, 0, 9);
    x.mark(0, 0, 0, 1);
    Check.plate(x, "risk 10 t=2;sure 1 t>1;risk 40 t<2");
    Check.due("RISK by t ahead of any cut", x.of(2, 8), 40);
    x.cut(0, 99);
    Check.due("TIRED 13: t is 1", x.of(2, 8), 2 + 40);
    x.cut(1, 99);
    Check.due("TIRED 26: t is 2", x.of(2, 8), 5 + 10 - 1);
    Check.due("RISK of one that is cut", x.of(0, 8), 14);
  }

  public static void main(String[] args) {
    newObject();
    feeding();
    clausesThatAreRead();
    faults();
    theNewestHolds();
    behindAFault();
    whatIsAsked();
    howItIsCombined();
    howTheyAreSummed();
    tens();
    tiredness();
    Check.finish();
  }
}
