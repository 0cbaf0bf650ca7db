/** The edges of the TEXT: what it takes, and how a FIELD and a TERM are read from it (promises 2, 3, 4, 5). */
public final class TextEdgeTests extends Checks {
  private static final int[] FIRST = {10, 0, 0, 0, 99, 10, 99, 10};

  private static void fedBytes() {
    says("n (1 .. 8) bytes come to the TEXT, the lowest first");
    String s = "g12;o34;";
    for (int n = 1; n <= 8; n++) {
      HalfOrNine x = new HalfOrNine();
      int taken = 0;
      while (taken < 8) {
        int more = Math.min(n, 8 - taken);
        long above = more < 8 ? -1L << (8 * more) : 0;
        taken += more;
        due("feed " + more, x.feed(more, bytes(s, taken - more, more) | above), taken);
      }
      due("field fed by " + n, x.field(), 2);
      settingsAre(x, 12, 34, 0, 0, 99, 10, 99, 10);
    }
    HalfOrNine x = new HalfOrNine();
    int[] below = {0, -1, -8, LEAST};
    for (int n : below) due("feed " + n, x.feed(n, 0), -4);
    int[] above = {9, 10, 64, 65, MOST};
    for (int n : above) due("feed " + n, x.feed(n, 0), -6);
    refusals(x, 0, 0, 0, 4, 5);
    due("nothing came", x.count(6), 0);
  }

  private static void fullText() {
    says("A TEXT has 64 bytes at most; -6 (above 64, too)");
    for (int room = 0; room <= 9; room++) {
      for (int n = 1; n <= 8; n++) {
        HalfOrNine x = new HalfOrNine();
        feed(x, many(64 - room, "g"));
        due("feed " + n + " where there is room for " + room, x.feed(n, 0), n <= room ? 64 - room + n : -6);
        due("bytes", x.count(6), n <= room ? 64 - room + n : 64 - room);
        refusals(x, 0, 0, 0, 0, n <= room ? 0 : 1);
      }
    }
    HalfOrNine x = new HalfOrNine();
    feed(x, many(16, "g10;"));
    due("-4 goes ahead of no room", x.feed(0, 0), -4);
    due("-6 of a full one", x.feed(9, 0), -6);
    due("-6 of a full one", x.feed(1, 0), -6);
    refusals(x, 0, 0, 0, 1, 2);
    due("the full TEXT stays", x.field(), 16);
    x = new HalfOrNine();
    feed(x, "g");
    x.feed(9, -1);
    x.feed(0, -1);
    feed(x, "7;");
    due("behind a REFUSAL the TEXT stays", x.field(), 1);
    due("so", x.set(0, 0), 7);
  }

  private static void fullFields() {
    says("its 64 bytes play no part in the FAULT");
    fieldIs(many(16, "g10;"), 16);
    fieldIs(many(21, "g1;") + "g", -1064);
    fieldIs(many(15, "g10;") + "g101", -1064);
    fieldIs(many(15, "g10;") + "p10,", -1064);
    fieldIs(many(15, "g10;") + "g10:", -1063);
    fieldIs(many(15, "g10;") + "g1;;", -1063);
    fieldIs(many(14, "g10;") + "g1;s1,2;", -2059);
    fieldIs(many(14, "g10;") + "g1;s1,1;", 16);
    says("a TERM in a full TEXT");
    termIs("p1/2" + many(60, "0"), 3);
    termIs("f9" + many(62, ";"), 2);
    termIs("t5+" + many(61, "0"), 4);
    termIs("w" + many(63, "0"), 2);
    termIs(many(64, "f"), 1);
  }

  /** A FIELD read on a new object: how many STATEMENTS or the FAULT; the TEXT is empty then, nothing is counted. */
  private static HalfOrNine fieldIs(String s, int answer) {
    HalfOrNine x = new HalfOrNine();
    readIs(x, s, answer);
    if (answer < 0) {
      settingsAre(x, FIRST);
      due("STEPS behind a FAULT", x.count(1), 0);
      due("WEATHERS behind a FAULT", x.count(2), 1);
    }
    return x;
  }

  private static void readIs(HalfOrNine x, String s, int answer) {
    due("field \"" + s + "\"", field(x, s), answer);
    due("bytes of the TEXT then", x.count(6), 0);
    refusals(x, 0, 0, 0, 0, 0);
  }

  private static void emptyTexts() {
    says("At least one STATEMENT: an empty TEXT");
    HalfOrNine x = new HalfOrNine();
    due("field", x.field(), -1000);
    due("field again", x.field(), -1000);
    says("a TERM of an empty TEXT");
    due("term", x.term(), -20);
    due("no TERM", x.count(0), 0);
    refusals(x, 0, 0, 0, 0, 0);
    says("The TEXT, which has none then");
    due("field", field(x, "g1;"), 1);
    due("it is read once", x.field(), -1000);
    due("term", term(x, "f1"), 0);
    due("it is read once", x.term(), -20);
    due("FAULT", field(x, "g1"), -1002);
    due("behind a FAULT it is empty", field(x, ";"), -1000);
    due("FAULT", term(x, "f"), -21);
    due("behind a FAULT it is empty", term(x, "1"), -20);
  }

  private static void ranges() {
    says("numbers of the FIELD's STATEMENTS: the least, the greatest, the next beyond");
    String[] taken = {"g0;", "g99;", "o0;", "o999;", "p0,0;", "p99,99;", "w1,0;", "w100,300;", "m0,0;", "m99,10;",
        "e0,0;", "e99,10;", "s0,0;", "s99,1;"};
    int[][] then = {{0, 0}, {0, 99}, {1, 0}, {1, 999}, {}, {}, {}, {}, {4, 0, 5, 0}, {4, 99, 5, 10},
        {6, 0, 7, 0}, {6, 99, 7, 10}, {2, 0, 3, 0}, {2, 99, 3, 1}};
    for (int i = 0; i < taken.length; i++) {
      int[] want = FIRST.clone();
      for (int k = 0; k < then[i].length; k += 2) want[then[i][k]] = then[i][k + 1];
      settingsAre(fieldIs(taken[i], 1), want);
    }
    String[] beyond = {"g100;", "g999;", "p100,0;", "p0,100;", "p999,999;", "w0,0;", "w0,300;", "w101,0;", "w1,301;",
        "w999,1;", "w1,999;", "m100,0;", "m0,11;", "m0,100;", "e100,0;", "e0,11;", "e99,999;", "s100,0;", "s0,2;",
        "s99,9;", "s0,10;"};
    for (String s : beyond) {
      fieldIs(s, -2000);
      fieldIs("o999;" + s, -2005);
      fieldIs(s + s, -2000);
    }
    says("numbers have 1 to 3 digits");
    fieldIs("o1000;", -1004);
    fieldIs("g1000;", -1004);
    fieldIs("p1000,1;", -1004);
    fieldIs("p1,1000;", -1006);
    fieldIs("w100,3000;", -1008);
    fieldIs("g;", -1001);
    fieldIs("p,1;", -1001);
    fieldIs("p1,;", -1003);
    fieldIs("g-1;", -1001);
    fieldIs("g+1;", -1001);
    says("no 0 ahead of another");
    for (char digit = '0'; digit <= '9'; digit++) {
      fieldIs("g0" + digit + ";", -1002);
      fieldIs("p0" + digit + ",1;", -1002);
      fieldIs("p1,0" + digit + ";", -1004);
      fieldIs("o98" + digit + ";", 1);
      if (digit != '0') fieldIs("g" + digit + "0;", 1);
    }
  }

  private static void firstBytes() {
    says("the place of the first byte with which no FIELD can go on (the end, if something lacks)");
    String[] whole = {"g7;", "o7;", "g98;", "o98;", "g987;", "o987;", "p7,8;", "w7,8;", "m7,8;", "e7,8;", "s7,1;",
        "p98,98;", "w98,98;", "m98,98;", "e98,98;", "s98,98;", "p987,987;", "w987,987;", "m987,987;", "e987,987;",
        "s987,987;"};
    for (String s : whole) {
      for (int k = 0; k < s.length(); k++) {
        fieldIs(s.substring(0, k), -1000 - k);
        fieldIs(s.substring(0, k) + "#" + s.substring(k), -1000 - k);
        fieldIs("g1;" + s.substring(0, k), k == 0 ? 1 : -1003 - k);
        fieldIs("g1;" + s.substring(0, k) + "#", -1003 - k);
      }
    }
    for (int b = 0; b < 256; b++) {
      char c = (char) b;
      boolean one = "go".indexOf(c) >= 0;
      boolean two = "pwmes".indexOf(c) >= 0;
      boolean digit = c >= '0' && c <= '9';
      fieldIs(c + "1;", one ? 1 : two ? -1002 : -1000);
      fieldIs(c + "1,1;", two ? 1 : one ? -1002 : -1000);
      fieldIs("g1;" + c + "1;", one ? 2 : two ? -1005 : -1003);
      fieldIs("g" + c + ";", digit ? 1 : -1001);
      fieldIs("g1" + c, c == ';' ? 1 : digit ? -1003 : -1002);
      fieldIs("p1" + c + "1;", c == ',' ? 1 : digit ? -1004 : -1002);
      fieldIs("p1," + c + ";", digit ? 1 : -1003);
      fieldIs("p1,1" + c, c == ';' ? 1 : digit ? -1005 : -1004);
    }
    says("kind 1 goes ahead of kind 2, wherever it is");
    fieldIs("g100;g", -1006);
    fieldIs("g100;?", -1005);
    fieldIs("w101,1;p1", -1009);
    fieldIs("s1,2;g1;g1", -1010);
    says("else the place of the letter of the first STATEMENT that is not as it must be");
    fieldIs("g1;g100;o1;m100,1;", -2003);
    fieldIs("m100,1;g100;", -2000);
    fieldIs("o1;o2;s1,2;", -2006);
  }

  private static void rooms() {
    says("PAINS: 8 STEPS at most");
    HalfOrNine x = new HalfOrNine();
    readIs(x, many(9, "p1,2;"), -2040);
    due("none of nine comes", x.count(1), 0);
    readIs(x, many(7, "p1,2;"), 7);
    readIs(x, "p1,2;p1,2;", -2005);
    due("seven stay", x.count(1), 7);
    readIs(x, "p99,99;", 1);
    readIs(x, "p1,2;", -2000);
    readIs(x, "g1;p0,0;", -2003);
    due("eight stay", x.count(1), 8);
    due("COSTS", x.count(3), 106);
    due("GIVES", x.count(4), 113);
    due("GROWS stays", x.set(0, 10), 10);
    fieldIs(many(8, "p1,2;"), 8);
    says("WEATHERS: 6 at most");
    x = new HalfOrNine();
    readIs(x, many(7, "w1,0;"), -2030);
    due("none of seven comes", x.count(2), 1);
    readIs(x, many(5, "w1,0;"), 5);
    readIs(x, "w1,0;w1,0;", -2005);
    due("five stay beside the one that lacks", x.count(2), 6);
    readIs(x, "w1,300;", 1);
    due("six beside the one that lacks", x.count(2), 7);
    readIs(x, "w1,0;", -2000);
    fieldIs(many(6, "w1,0;"), 6);
    says("a CHANCE by which all would be above 100");
    fieldIs("w99,0;w1,0;", 2);
    fieldIs("w99,0;w2,0;", -2006);
    fieldIs("w100,0;w1,0;", -2007);
    fieldIs("w50,0;w50,0;g1;w1,0;", -2015);
    x = with("w40,0;");
    readIs(x, "w61,0;", -2000);
    readIs(x, "w40,0;w21,0;", -2006);
    due("what lacks stays", x.weather(1, 0), 60);
    readIs(x, "w40,0;w20,0;", 2);
    due("nothing lacks", x.count(2), 3);
    readIs(x, "w1,0;", -2000);
  }

  private static void allOrNothing() {
    says("Without FAULT all of it comes, with one nothing");
    String all = "g1;o2;m3,4;e5,6;s7,1;p8,9;w10,11;";
    HalfOrNine x = with("", "f1");
    String before = seen(x);
    String[] faults = {"x", "g", "g1", "g100;", "w91,0;", "o1000;", "p1,100;", "m1,11;", "s0,2;"};
    int[] answers = {-1033, -1034, -1035, -2033, -2033, -1037, -2033, -2033, -2033};
    for (int i = 0; i < faults.length; i++) {
      readIs(x, all + faults[i], answers[i]);
      same("field behind " + faults[i], seen(x), before);
    }
    readIs(x, all, 7);
    settingsAre(x, 1, 2, 7, 1, 3, 4, 5, 6);
    due("STEPS", x.count(1), 1);
    due("COSTS", x.count(3), 8);
    due("GIVES", x.count(4), 9);
    due("CHANCE", x.weather(0, 0), 10);
    due("TIMES", x.weather(0, 1), 11);
    due("TERMS stay", x.count(0), 1);
    says("what is told again takes the place; STEPS, WEATHERS are more");
    readIs(x, "g11;g12;o13;o14;m15,1;m16,2;e17,3;e18,4;s19,1;s20,0;", 10);
    settingsAre(x, 12, 14, 20, 0, 16, 2, 18, 4);
    readIs(x, "p1,2;w3,4;", 2);
    due("STEPS", x.count(1), 2);
    due("WEATHERS", x.count(2), 3);
    due("the first CHANCE", x.weather(0, 0), 10);
    due("the second CHANCE", x.weather(1, 0), 3);
    says("a FIELD that is read comes to what there is");
    x = new HalfOrNine();
    for (int what = 0; what < 8; what++) x.set(what, 1);
    readIs(x, "g5;", 1);
    settingsAre(x, 5, 1, 1, 1, 1, 1, 1, 1);
    readIs(x, "m6,7;", 1);
    settingsAre(x, 5, 1, 1, 1, 6, 7, 1, 1);
  }

  private static final String[] KINDS = {"p", "f", "w", "x", "y", "t"};

  /** A TERM read on a new object: with a FAULT its place (none, below 0); the TEXT is empty then. */
  private static HalfOrNine termIs(String s, int fault) {
    HalfOrNine x = new HalfOrNine();
    due("term \"" + s + "\"", term(x, s), fault < 0 ? 0 : -20 - fault);
    due("bytes of the TEXT then", x.count(6), 0);
    due("TERMS then", x.count(0), fault < 0 ? 1 : 0);
    refusals(x, 0, 0, 0, 0, 0);
    return x;
  }

  private static void termRanges() {
    says("numbers of TERMS: the least, the greatest");
    String[] taken = {"p1/1", "p1/99", "p99/99", "f0", "f99", "w0", "w99", "x1/1+0", "x99/99+99", "y1/1+0",
        "y99/99+99", "t0+0", "t99+99"};
    int[][] parts = {{0, 1, 1, 0}, {0, 1, 99, 0}, {0, 99, 99, 0}, {1, 0, 0, 0}, {1, 99, 0, 0}, {2, 0, 0, 0},
        {2, 99, 0, 0}, {3, 1, 1, 0}, {3, 99, 99, 99}, {4, 1, 1, 0}, {4, 99, 99, 99}, {5, 0, 0, 0}, {5, 99, 0, 99}};
    for (int i = 0; i < taken.length; i++) {
      HalfOrNine x = termIs(taken[i], -1);
      for (int what = 0; what < 4; what++) due(taken[i] + " termOf " + what, x.termOf(0, what), parts[i][what]);
    }
    says("a number out of range, a B below A: its first digit");
    String[] kinds = {"p", "x", "y"};
    for (String k : kinds) {
      String behind = k.equals("p") ? "" : "+1";
      termIs(k + "0/1" + behind, 1);
      termIs(k + "100/100" + behind, 1);
      termIs(k + "999/1" + behind, 1);
      termIs(k + "1/0" + behind, 3);
      termIs(k + "1/100" + behind, 3);
      termIs(k + "2/1" + behind, 3);
      termIs(k + "12/11" + behind, 4);
      termIs(k + "99/98" + behind, 4);
      termIs(k + "99/9" + behind, 4);
    }
    termIs("f100", 1);
    termIs("w100", 1);
    termIs("f999", 1);
    termIs("x1/2+100", 5);
    termIs("y11/22+999", 7);
    termIs("t100+1", 1);
    termIs("t1+100", 3);
    termIs("t99+100", 4);
    says("their FAULT goes from the left");
    termIs("p0/0", 1);
    termIs("p100/?", 1);
    termIs("x2/1+?", 3);
    termIs("t100", 1);
    termIs("t?+100", 1);
    termIs("y1?2+100", 2);
    says("TERMS have numbers as FIELDS have: no 0 ahead of another");
    termIs("f00", 2);
    termIs("w05", 2);
    termIs("t00+1", 2);
    termIs("t1+00", 4);
    termIs("x1/2+09", 6);
    termIs("y1/2+00", 6);
  }

  private static void termBytes() {
    says("the first byte that can not stand; the end");
    String[] whole = {"p7/8", "f7", "w7", "x7/8+9", "y7/8+9", "t7+8"};
    for (int kind = 0; kind < 6; kind++) {
      String s = whole[kind];
      for (int k = 0; k < s.length(); k++) {
        termIs(s.substring(0, k), k);
        termIs(s.substring(0, k) + "#" + s.substring(k), k);
      }
      termIs(s + "#", s.length());
      termIs(s + ";", s.length());
      termIs(s + KINDS[kind], s.length());
      due(s + " KIND", termIs(s, -1).termOf(0, 0), kind);
    }
    termIs("p1/2+3", 4);
    termIs("f1/2", 2);
    termIs("w1+2", 2);
    termIs("x1/2", 4);
    termIs("y1+2", 2);
    termIs("t1/2", 2);
    for (int b = 0; b < 256; b++) {
      char c = (char) b;
      boolean digit = c >= '0' && c <= '9';
      termIs(c + "1", c == 'f' || c == 'w' ? -1 : "pxyt".indexOf(c) >= 0 ? 2 : 0);
      termIs("f" + c, digit ? -1 : 1);
      termIs("f1" + c, digit ? -1 : 2);
      termIs("p1" + c + "2", c == '/' ? -1 : digit ? 1 : 2);
      termIs("p1/" + c, c >= '1' && c <= '9' ? -1 : 3);
      termIs("x1/2" + c + "3", c == '+' ? -1 : digit ? 3 : 4);
      termIs("t1" + c + "2", c == '+' ? -1 : digit ? 1 : 2);
      termIs("t1+" + c, digit ? -1 : 3);
    }
  }

  private static void eightTerms() {
    says("TERMS 0 .. 7 as they come; -6 8 (it stays)");
    HalfOrNine x = new HalfOrNine();
    for (int t = 0; t < 8; t++) {
      due("no such TERM yet", x.termOf(t, 0), -1);
      due("a FAULT takes no number", term(x, "f100"), -21);
      if (t == 7) x.image();
      due("term", term(x, "f" + (t + 10)), t);
      due("its N", x.termOf(t, 1), t + 10);
    }
    due("no ninth", x.termOf(8, 0), -1);
    feed(x, "w99");
    due("a ninth", x.term(), -6);
    due("its TEXT stays", x.count(6), 3);
    due("eight TERMS", x.count(0), 8);
    due("the last stays", x.termOf(7, 1), 17);
    refusals(x, 9, 0, 0, 0, 1);
    x.restore();
    due("with room the TEXT that stayed is a TERM", x.term(), 7);
    due("a WAGE", x.termOf(7, 0), 2);
    due("-6 of an empty TEXT", x.term(), -6);
    feed(x, "g5;");
    due("-6", x.term(), -6);
    due("the TEXT that stayed is a FIELD", x.field(), 1);
    refusals(x, 9, 0, 0, 0, 3);
  }

  public static void main(String[] args) {
    fedBytes();
    fullText();
    fullFields();
    emptyTexts();
    ranges();
    firstBytes();
    rooms();
    allOrNothing();
    termRanges();
    termBytes();
    eightTerms();
    end();
  }
}
