/** Edges of Terms, ==== 1: THE TAPE, CLAUSES, PLATES, RISK. */
final class EdgesOfTerms1 {
  private static final int FULL = MirrorPlate.FULL;
  private static final String TEN = "wear 1;wear 1;wear 1;wear 1;wear 1;wear 1;wear 1;wear 1;wear 1;mend 9";

  private EdgesOfTerms1() {}

  private static void reads(String text) {
    Check.due("plate() of '" + text + "'", Check.plate(new MirrorPlate(), text), 0);
  }

  private static void fault(String text, int place) {
    Check.due("plate() of '" + text + "'", Check.plate(new MirrorPlate(), text), -10 - place);
  }

  /** RISK of the first of these marks by these clauses. */
  private static int risk(String clauses, int... marks) {
    return Scene.of(clauses, marks).of(0, 8);
  }

  private static String times(String part, int many) {
    StringBuilder text = new StringBuilder();
    for (int i = 0; i < many; i++) {
      text.append(part);
    }
    return text.toString();
  }

  @Says("THE TAPE (bytes, 100 at most)")
  static void t1_tapeOf100() {
    MirrorPlate x = new MirrorPlate();
    for (int many = 1; many <= 100; many++) {
      Check.due("feed, the " + many + "th", x.feed('w'), many);
    }
    Check.due("feed, the 101st", x.feed('w'), FULL);
    Check.due("count(5)", x.count(5), 100);
    reads("risk 15 " + times("d>0&", 22) + "d>10");
    fault("risk 5 " + times("d>0&", 23) + "d", 100);
  }

  @Says("CLAUSES, 10 at most")
  static void t1_tenClauses() {
    reads(TEN);
    Check.due("MEND by the tenth", Scene.of(TEN).told(4), 9);
    fault(TEN + ";wear 1", TEN.length());
    fault(TEN + ";", TEN.length());
    MirrorPlate x = Scene.of(times("risk 1 m=0;", 7) + "mend 5;wear 3;mend 6", 0, 0, 0, 1);
    Check.due("RISK by seven of ten", x.of(0, 8), 7);
    Check.due("MEND by the tenth of them", x.told(4), 6);
    reads("wear 1");
  }

  @Says("with ; between")
  static void t1_noSemicolonAheadOrBehind() {
    fault(";wear 5", 0);
    fault("wear 5;", 7);
    fault("wear 5;;mend 5", 7);
    fault("wear 5 mend 5", 6);
    reads("wear 5;mend 5");
  }

  @Says("one blank ahead of each part behind the word")
  static void t1_oneBlank() {
    fault("wear5", 4);
    fault("wear  5", 5);
    fault(" wear 5", 0);
    fault("wear 5 ", 6);
    fault("risk 5m=1", 6);
    fault("risk 5  m=1", 7);
    fault("sure 5 m =1", 8);
    fault("sure 5 m= 1", 9);
    fault("sure 5 m=1 ", 10);
    fault("sure 5 m=1& m=2", 11);
  }

  @Says("n 1 or 2 digits")
  static void t1_oneOrTwoDigits() {
    fault("mend ;", 5);
    reads("mend 0");
    reads("mend 9");
    reads("mend 10");
    reads("mend 99");
    fault("mend 100", 7);
    fault("risk  m=1", 5);
    reads("risk 99 m=1");
    fault("risk 999 m=1", 7);
    fault("mend /", 5);
    fault("mend :", 5);
    fault("mend 1/", 6);
    fault("mend 1:", 6);
  }

  @Says("no 0 ahead of another")
  static void t1_no0AheadOfAnother() {
    reads("wear 0");
    fault("wear 00", 6);
    fault("wear 05", 6);
    fault("risk 01 m=1", 6);
    reads("wear 50");
  }

  @Says("E: T, or T|E. T: F, or F&T")
  static void t1_asManyPartsAsTheTapeHas() {
    int[] mark = {0, 5, 55, 5};
    Check.due("one", risk("risk 9 m=0", mark), 9);
    Check.due("the first of two", risk("risk 9 m=0|m=1", mark), 9);
    Check.due("the second of two", risk("risk 9 m=1|m=0", mark), 9);
    Check.due("neither", risk("risk 9 m=1|m=2", mark), 0);
    Check.due("the last of 23", risk("risk 9 " + times("m=1|", 22) + "m=0", mark), 9);
    Check.due("none of 23", risk("risk 9 " + times("m=1|", 22) + "m=2", mark), 0);
    Check.due("all of 23", risk("risk 9 " + times("m=0&", 22) + "v=5", mark), 9);
    Check.due("all but the last", risk("risk 9 " + times("m=0&", 22) + "v=4", mark), 0);
    Check.due("all but the first", risk("risk 9 v=4&" + times("m=0&", 21) + "m=0", mark), 0);
    Check.due("& ahead of |", risk("risk 9 m=0|m=0&m=1", mark), 9);
    Check.due("& ahead of |, turned round", risk("risk 9 m=1&m=0|m=0", mark), 9);
    Check.due("( ahead of &", risk("risk 9 (m=0|m=0)&m=1", mark), 0);
    Check.due("one in ( )", risk("risk 9 m=0&(m=0)", mark), 9);
    Check.due("one in ( ) of two", risk("risk 9 m=1|m=0&(m=0&(m=0))", mark), 9);
    Check.due("! ahead of &", risk("risk 9 !m=1&m=0", mark), 9);
    Check.due("! ahead of |", risk("risk 9 !m=0|m=0", mark), 9);
    Check.due("! of all in ( )", risk("risk 9 !(m=0|m=1)", mark), 0);
    fault("risk 9 m=0|", 11);
    fault("risk 9 m=0&", 11);
    fault("risk 9 |m=0", 7);
    fault("risk 9 &m=0", 7);
    fault("risk 9 !", 8);
    fault("risk 9 ()", 8);
  }

  @Says("one of < = >")
  static void t1_lessAlikeMore() {
    int[] three = {0, 0, 0, 5};
    Check.due("d<4", risk("risk 9 d<4", three), 0);
    Check.due("d<5", risk("risk 9 d<5", three), 0);
    Check.due("d<6", risk("risk 9 d<6", three), 9);
    Check.due("d=4", risk("risk 9 d=4", three), 0);
    Check.due("d=5", risk("risk 9 d=5", three), 9);
    Check.due("d=6", risk("risk 9 d=6", three), 0);
    Check.due("d>4", risk("risk 9 d>4", three), 9);
    Check.due("d>5", risk("risk 9 d>5", three), 0);
    Check.due("d>6", risk("risk 9 d>6", three), 0);
    fault("risk 9 d?5", 8);
    fault("risk 9 d<=5", 9);
  }

  @Says("a number likewise")
  static void t1_numberOfATest() {
    reads("risk 5 m=0");
    reads("risk 5 m=99");
    fault("risk 5 m=", 9);
    fault("risk 5 m=&", 9);
    fault("risk 5 m=00", 10);
    fault("risk 5 m=09", 10);
    fault("risk 5 m=100", 11);
    Check.due("m<99", risk("risk 5 m<99", 0, 0, 0, 1), 5);
    Check.due("m<0", risk("risk 5 m<0", 0, 0, 0, 1), 0);
    Check.due("!m<0", risk("risk 5 m=0&!m<0", 0, 0, 0, 1), 5);
    Check.due("v>0, v 0", risk("risk 5 v>0", 0, 0, 0, 1), 0);
    Check.due("v=0, v 0", risk("risk 5 v=0", 0, 0, 0, 1), 5);
    Check.due("d<10, d 9", risk("risk 5 d<10", 0, 0, 0, 9), 5);
  }

  @Says("x its PLACE by 10 (cut)")
  static void t1_placeBy10() {
    int[] places = {0, 9, 10, 19, 89, 90, 99};
    int[] tens = {0, 0, 1, 1, 8, 9, 9};
    for (int i = 0; i < places.length; i++) {
      Check.due("x of place " + places[i], risk("risk 5 x=" + tens[i], 0, 0, places[i], 1), 5);
      Check.due("no x less at place " + places[i], risk("risk 5 x<" + tens[i], 0, 0, places[i], 1), 0);
    }
  }

  @Says("t TIRED by 10 (cut)")
  static void t1_tiredBy10() {
    int[] tired = {0, 8, 9, 10, 19, 20, 89, 90, 99};
    for (int t : tired) {
      MirrorPlate x = Scene.tired(t, "risk 50 t=" + t / 10, 0, 0, 0, 1);
      Check.due("RISK, TIRED being " + t, x.of(0, 8), 50 + t / 5);
      MirrorPlate y = Scene.tired(t, "risk 50 t>" + t / 10 + ";risk 50 t<" + t / 10, 0, 0, 0, 1);
      Check.due("RISK by another t, TIRED being " + t, y.of(0, 8), t / 5);
    }
  }

  @Says("At most 5 of ! and ( are open")
  static void t1_fiveAreOpen() {
    reads("risk 5 !!!!!m=1");
    fault("risk 5 !!!!!!m=1", 12);
    reads("risk 5 (((((m=1)))))");
    fault("risk 5 ((((((m=1))))))", 12);
    reads("risk 5 !(!(!m=1))");
    fault("risk 5 !(!(!(m=1)))", 12);
    fault("risk 5 !(!(!!m=1))", 12);
    fault("risk 5 m=1&!!!!!!m=1", 16);
    fault("risk 5 (m=1|!(m=2&!(m=3&!m=4)))", 24);
    Check.due("five are as good as one", risk("risk 5 !!!!!m=1", 0, 0, 0, 1), 5);
  }

  @Says("(a ( till its ) , a ! till its F ends)")
  static void t1_whatIsOpenNoMore() {
    reads("risk 5 (((((m=1)))))&(((((m=2)))))");
    reads("risk 5 !!!!!m=1&!!!!!m=2|!!!!!m=3");
    reads("risk 5 !(m=1)&!(((!m=2)))");
    reads("risk 5 (!m=1&!m=2&!m=3&!m=4&!m=5&!m=6)");
    reads("risk 5 ((((!m=1&!m=2))))");
    fault("risk 5 !((((m=1&!m=2))))", 16);
    fault("risk 5 !((((m=1))&(((m=2))))", 20);
    reads("risk 5 !((((m=1))&((m=2))))");
    reads("risk 5 !!!!!m=1;sure 5 !!!!!m=1");
  }

  @Says("the place of the first byte with which no PLATE can go on")
  static void t1_faultAtAByte() {
    fault("x", 0);
    fault("\0", 0);
    fault("\177", 0);
    fault("we r 5", 2);
    fault("risk 5 m=1)", 10);
    fault("risk 5 (m=1;", 11);
    fault("risk 5 ()", 8);
    fault("wear 5;xxxx", 7);
    fault("wear 5 m=1", 6);
    fault("risk 5;", 6);
    fault("risk 5 M=1", 7);
    fault("risk 5 m=1&&m=2", 11);
    fault("risk 5 (m=1)m", 12);
    fault("risk 5 " + times("m=1&", 23) + "?", 99);
  }

  @Says("(the size, if it ends too early)")
  static void t1_faultAtTheEnd() {
    fault("", 0);
    String whole = "risk 50 !(m=1|d>9)&k<1";
    for (int size = 0; size < whole.length(); size++) {
      boolean isWhole = whole.substring(0, size).endsWith("&k<1") || whole.substring(0, size).endsWith(")");
      if (!isWhole) {
        fault(whole.substring(0, size), size);
      }
    }
    reads(whole);
    reads(whole.substring(0, 18));
    fault("wear 5;", 7);
    fault("wear 5;mend", 11);
    fault("mend ", 5);
  }

  @Says("PLATES are numbered from 0 on, 5 at most")
  static void t1_fivePlates() {
    MirrorPlate x = new MirrorPlate();
    for (int i = 0; i < 5; i++) {
      Check.due("plate, the " + (i + 1) + "th", Check.plate(x, "mend " + i), i);
      Check.due("count(1)", x.count(1), i + 1);
    }
    Check.due("plate, the 6th", Check.plate(x, "mend 5"), FULL);
    Check.due("count(1)", x.count(1), 5);
    Check.due("MEND", x.told(4), 4);
  }

  @Says("the newest one holds")
  static void t1_newestHolds() {
    MirrorPlate x = Scene.of("wear 5;risk 9 m=0", 0, 0, 0, 1);
    Check.due("RISK by the first", x.of(0, 8), 9);
    Check.plate(x, "mend 5;risk 7 m=1");
    Check.due("RISK by the second", x.of(0, 8), 0);
    Check.due("WEAR by the second", x.told(3), 20);
    Check.due("MEND by the second", x.told(4), 5);
  }

  @Says("without one there are no CLAUSES")
  static void t1_noPlate() {
    MirrorPlate x = Scene.tired(99, "", 5, 9, 99, 9);
    Check.due("RISK", x.of(0, 8), 19);
    Check.due("WEAR", x.told(3), 20);
    Check.due("MEND", x.told(4), 8);
    Check.due("a fault makes no plate", Check.plate(x, "risk 9 m=0;wear 3;mend 3;"), -10 - 25);
    Check.due("RISK behind a fault", x.of(0, 8), 19);
    Check.due("WEAR behind a fault", x.told(3), 20);
    Check.due("MEND behind a fault", x.told(4), 8);
  }

  @Says("WEAR (20 without")
  static void t1_wear20() {
    MirrorPlate x = Scene.cut(99, "mend 3", 0, 0, 0, 5);
    Check.due("WEAR", x.told(3), 20);
    Check.due("dark(0, 19)", x.dark(0, 19), 5);
    Check.due("dark(0, 20)", x.dark(0, 20), 4);
  }

  @Says("1 if less: so many PRINTS take one from DARK")
  static void t1_wear1() {
    for (String clauses : new String[] {"wear 0", "wear 1"}) {
      MirrorPlate x = Scene.cut(99, clauses, 0, 0, 0, 5);
      Check.due("WEAR by " + clauses, x.told(3), 1);
      Check.due("dark(0, 0) by " + clauses, x.dark(0, 0), 5);
      Check.due("dark(0, 1) by " + clauses, x.dark(0, 1), 4);
      Check.due("dark(0, 4) by " + clauses, x.dark(0, 4), 1);
      Check.due("dark(0, 5) by " + clauses, x.dark(0, 5), 0);
    }
    Check.due("WEAR by wear 2", Scene.of("wear 2").told(3), 2);
    Check.due("WEAR by wear 99", Scene.of("wear 99").told(3), 99);
    Check.due("WEAR by wear 9, then 0", Scene.of("wear 9;wear 0").told(3), 1);
    Check.due("WEAR by wear 0, then 9", Scene.of("wear 0;wear 9").told(3), 9);
  }

  @Says("MEND (8 without: MINUTES that mending takes)")
  static void t1_mend8() {
    MirrorPlate x = Scene.cut(99, "wear 3", 0, 0, 0, 5);
    Check.due("MEND", x.told(4), 8);
    x.mend(0);
    Check.due("MINUTE", x.told(0), 15 + 8);
    Check.plate(x, "mend 0");
    Check.due("MEND 0", x.told(4), 0);
    x.mend(0);
    Check.due("MINUTE, MEND being 0", x.told(0), 15 + 8);
    Check.plate(x, "mend 99");
    x.mend(0);
    Check.due("MINUTE, MEND being 99", x.told(0), 15 + 8 + 99);
  }

  @Says("the last n")
  static void t1_lastOfSeveral() {
    MirrorPlate x = Scene.of("mend 7;wear 4;wear 6;mend 0;risk 9 m=0");
    Check.due("WEAR", x.told(3), 6);
    Check.due("MEND", x.told(4), 0);
  }

  @Says("TIRED by 5 (cut)")
  static void t1_tiredBy5() {
    int[] tired = {0, 4, 5, 9, 10, 94, 95, 99};
    int[] risk = {0, 0, 1, 1, 2, 18, 19, 19};
    for (int i = 0; i < tired.length; i++) {
      Check.due("RISK, TIRED being " + tired[i], Scene.tired(tired[i], "", 0, 0, 0, 1).of(0, 8), risk[i]);
    }
  }

  @Says("the n of all risk whose E holds")
  static void t1_riskWhoseEHolds() {
    int[] mark = {0, 5, 55, 5};
    Check.due("none does", risk("risk 9 m=1;risk 8 v<5;risk 7 v>5", mark), 0);
    Check.due("one does", risk("risk 9 m=1;risk 8 v=5;risk 7 x=4", mark), 8);
    Check.due("all do", risk("risk 9 m=0;risk 8 v=5;risk 7 x=5", mark), 24);
    Check.due("the same twice", risk("risk 9 m=0;risk 9 m=0", mark), 18);
    Check.due("n is 0", risk("risk 0 m=0", mark), 0);
  }

  @Says("less the n of all sure whose E holds, together")
  static void t1_heldAtTheEndAlone() {
    int[] mark = {0, 0, 0, 1};
    Check.due("198 less 99", risk("risk 99 m=0;risk 99 m=0;sure 99 m=0", mark), 99);
    Check.due("198 less 100", risk("risk 99 m=0;sure 99 m=0;risk 99 m=0;sure 1 m=0", mark), 98);
    Check.due("-99 and 99", risk("sure 99 m=0;risk 99 m=0", mark), 0);
    Check.due("-99 and 100", risk("sure 99 m=0;risk 99 m=0;risk 1 m=0", mark), 1);
    Check.due("those alone whose E holds", risk("risk 9 m=0;risk 9 m=1;sure 3 m=1;sure 2 m=0", mark), 7);
  }

  @Says("held to 0 .. 99")
  static void t1_riskHeld() {
    int[] mark = {0, 0, 0, 1};
    Check.due("98", risk("risk 98 m=0", mark), 98);
    Check.due("99", risk("risk 99 m=0", mark), 99);
    Check.due("100", risk("risk 99 m=0;risk 1 m=0", mark), 99);
    Check.due("693", risk("risk 99 m=0;risk 99 m=0;risk 99 d=1;risk 99 d=1;risk 99 d=1;risk 99 d=1;risk 99 d=1", mark), 99);
    Check.due("1", risk("risk 6 m=0;sure 5 m=0", mark), 1);
    Check.due("0", risk("risk 5 m=0;sure 5 m=0", mark), 0);
    Check.due("-1", risk("risk 4 m=0;sure 5 m=0", mark), 0);
    Check.due("99 and TIRED", Scene.tired(99, "risk 81 m=0", mark).of(0, 8), 99);
    Check.due("TIRED less sure", Scene.tired(99, "sure 20 m=0", mark).of(0, 8), 0);
  }
}
