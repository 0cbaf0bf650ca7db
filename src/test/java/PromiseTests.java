/** For each promise ordinary inputs, the edges that the document names, and wrong inputs; numbers reckoned by hand. */
public final class PromiseTests extends Checks {
  /** HARVESTS 0, 0, 0 and 10, 15, 19 by PAINS 0, 1, 2 with COSTS 0, 1, 3; TERMS of each kind. */
  private static HalfOrNine ordinary() {
    return with("g10;p1,5;p2,4;w50,0;", "p1/2", "f9", "w6", "x1/2+3", "y1/4+1", "t5+4", "p9/9");
  }

  private static void newObject() {
    says("promise 1");
    HalfOrNine x = new HalfOrNine();
    for (int what = 0; what <= 6; what++) due("count(" + what + ")", x.count(what), what == 2 ? 1 : 0);
    int[] first = {10, 0, 0, 0, 99, 10, 99, 10};
    for (int what = 0; what < 8; what++) due("set(" + what + ", 0)", x.set(what, 0), first[what]);
    refusals(x, 0, 0, 0, 0, 0);
    due("restore", x.restore(), -3);
    due("pains of no TERM", x.pains(0), -1);
  }

  private static void feeding() {
    says("promise 2");
    HalfOrNine x = new HalfOrNine();
    due("feed 3", x.feed(3, 'g' | '5' << 8 | ';' << 16 | 0x7700000000L), 3);
    due("the lowest first", x.field(), 1);
    due("GROWS", x.harvest(0, 0), 5);
    due("feed 0", x.feed(0, 0), -4);
    due("feed least", x.feed(LEAST, 0), -4);
    due("feed 9", x.feed(9, 0), -6);
    due("feed most", x.feed(MOST, 0), -6);
    for (int i = 1; i <= 7; i++) due("feed 8", x.feed(8, -1L), 8 * i);
    due("feed 6", x.feed(6, 0), 62);
    due("feed 3 more than there is room", x.feed(3, 0), -6);
    due("feed 0 ahead of room", x.feed(0, 0), -4);
    due("it stays", x.count(6), 62);
    due("feed 2", x.feed(2, 0), 64);
    due("feed 1 more", x.feed(1, 0), -6);
    due("bytes of the TEXT", x.count(6), 64);
    refusals(x, 0, 0, 0, 3, 4);
    due("a byte 255 is none of a FIELD", x.field(), -1000);
    due("empty", x.count(6), 0);
  }

  private static void fields() {
    says("promise 3");
    String[] brokenTexts = {"", "g", "g;", "g1", "g01;", "g1000;", "g1,2;", "p1;", "p1,;", "p1,2", "x1;", "g1;;",
        "g1;G2;", "g1; ", "g100;g", "o1000;", "w0,301;x", "s1,2", "g00;", "p3,4;w5"};
    int[] places = {0, 1, 1, 2, 2, 4, 2, 2, 3, 4, 0, 3, 3, 3, 6, 4, 7, 4, 2, 7};
    for (int i = 0; i < places.length; i++) {
      HalfOrNine x = ordinary();
      due("field " + brokenTexts[i], field(x, brokenTexts[i]), -1000 - places[i]);
      due("the TEXT is empty", x.count(6), 0);
      due("nothing comes", x.harvest(2, 1), 19);
      refusals(x, 0, 0, 0, 0, 0);
    }
    String[] outOfRange = {"g100;", "p100,1;", "p1,100;", "w0,1;", "w101,1;", "w1,301;", "m100,1;", "m1,11;",
        "e100,1;", "e1,11;", "s100,1;", "s1,2;", "w60,1;"};
    for (String s : outOfRange) {
      HalfOrNine x = ordinary();
      due("field " + s, field(x, s), -2000);
      due("field behind another " + s, field(x, "g7;o5;" + s), -2006);
      due("nothing comes", x.harvest(2, 1), 19);
      due("nothing comes", x.set(1, 0), 0);
      refusals(x, 0, 0, 0, 0, 0);
    }
  }

  private static void moreFields() {
    HalfOrNine x = new HalfOrNine();
    due("field of all", field(x, "g0;p0,99;p99,0;w1,300;w99,0;o999;m0,0;e99,10;s99,1;g99;"), 10);
    due("told again", x.set(0, 0), 99);
    due("no CHANCE lacks", x.count(2), 2);
    due("field of one more STEP", field(x, "p1,2;"), 1);
    due("STEPS are more", x.count(1), 3);
    due("no CHANCE has room", field(x, "w1,0;"), -2000);
    due("five STEPS more", field(x, "p1,2;p1,2;p1,2;p1,2;p1,2;"), 5);
    due("a STEP without room", field(x, "g5;p1,2;"), -2003);
    due("it stays", x.set(0, 0), 0);
    x = new HalfOrNine();
    due("nine STEPS", field(x, "p1,1;p1,1;p1,1;p1,1;p1,1;p1,1;p1,1;p1,1;p1,1;"), -2040);
    due("none comes", x.count(1), 0);
    due("six WEATHERS", field(x, "w9,1;w9,2;w9,3;w9,4;w9,5;w9,6;"), 6);
    due("seven WEATHERS with the one that lacks", x.count(2), 7);
    due("a seventh is not told", field(x, "w9,1;"), -2000);
    due("a full TEXT lacks its end", field(x, "g10;g10;g10;g10;g10;g10;g10;g10;g10;g10;g10;g10;g10;g10;g10;g101"),
        -1064);
    due("a full TEXT", field(x, "g10;g10;g10;g10;g10;g10;g10;g10;g10;g10;g10;g10;g10;g10;g10;g11;"), 16);
    due("the last", x.set(0, 0), 11);
    x = new HalfOrNine();
    due("all above 100", field(x, "w50,1;w50,2;g4;w1,3;"), -2015);
    due("100 just so", field(x, "w50,1;w50,2;"), 2);
  }

  private static void terms() {
    says("promise 4");
    String[] texts = {"", "p", "q1/2", "P1/2", "p0/2", "p1", "p1-", "p1/", "p1/0", "p3/2", "p30/2", "p30/29", "p1/100",
        "p100/2", "p1000/2", "p05/7", "p1/2/", "p1/2+3", "f", "f100", "f05", "f1/2", "f56x", "w100", "w9;", "x1/2",
        "x1/2+", "x1/2+100", "x1/2+05", "x1/2+3+", "y0/1+1", "y2/1+1", "y1/1", "t5", "t5/", "t5+", "t100+1", "t5+100",
        "t5+1+", "t5+1x", " p1/2", "p7/3x", "p100x", "p1/02"};
    int[] places = {0, 1, 0, 0, 1, 2, 2, 3, 3, 3, 4, 4, 3,
        1, 1, 1, 4, 4, 1, 1, 2, 2, 3, 1, 2, 4,
        5, 5, 6, 6, 1, 3, 4, 2, 2, 3, 1, 3,
        4, 4, 0, 3, 1, 3};
    HalfOrNine x = new HalfOrNine();
    for (int i = 0; i < texts.length; i++) {
      due("term " + texts[i], term(x, texts[i]), -20 - places[i]);
      due("the TEXT is empty", x.count(6), 0);
    }
    due("none came", x.count(0), 0);
    refusals(x, 0, 0, 0, 0, 0);
    String[] good = {"p1/1", "p99/99", "f0", "f99", "w0", "x1/99+0", "y1/2+99", "t0+99"};
    for (int i = 0; i < good.length; i++) due("term " + good[i], term(x, good[i]), i);
    due("a ninth", term(x, "p1/2"), -6);
    due("its TEXT stays", x.count(6), 4);
    due("still", x.term(), -6);
    refusals(x, 0, 0, 0, 0, 2);
  }

  private static void termsOf() {
    says("promise 5");
    HalfOrNine x = with("", "p3/4", "f5", "w6", "x7/8+9", "y1/2+3", "t4+5");
    int[][] want = {{0, 3, 4, 0}, {1, 5, 0, 0}, {2, 6, 0, 0}, {3, 7, 8, 9}, {4, 1, 2, 3}, {5, 4, 0, 5}};
    for (int t = 0; t < 6; t++) {
      for (int what = 0; what < 4; what++) due("termOf " + t + " " + what, x.termOf(t, what), want[t][what]);
    }
    due("termOf 6", x.termOf(6, 0), -1);
    due("termOf -1 ahead of -2", x.termOf(-1, 9), -1);
    due("termOf what 4", x.termOf(0, 4), -2);
    due("termOf what -1", x.termOf(0, -1), -2);
    refusals(x, 2, 2, 0, 0, 0);
  }

  private static void settings() {
    says("promise 6");
    HalfOrNine x = new HalfOrNine();
    int[] first = {10, 0, 0, 0, 99, 10, 99, 10};
    int[] most = {99, 999, 99, 1, 99, 10, 99, 10};
    for (int what = 0; what < 8; what++) {
      due("set below", x.set(what, -1), -4);
      due("set above", x.set(what, most[what] + 1), -6);
      due("set most", x.set(what, most[what]), first[what]);
      due("set 0", x.set(what, 0), most[what]);
      due("it was", x.set(what, 1), 0);
    }
    due("set what 8 ahead of -4", x.set(8, -1), -2);
    due("set what -1 ahead of -6", x.set(-1, 5000), -2);
    refusals(x, 0, 2, 0, 8, 8);
    x = with("", "p1/2");
    x.set(0, 20);
    x.set(2, 3);
    due("SEED by the man", x.whose(0, 20, 0, 0), 7);
    x.set(3, 1);
    due("SEED by the owner", x.whose(0, 20, 0, 1), 7);
    x.set(4, 5);
    x.set(5, 2);
    due("the man's", x.mind(0, 7), 54);
    x.set(6, 6);
    x.set(7, 3);
    due("the owner's", x.mind(1, 8), 66);
    due("GROWS", x.harvest(0, 0), 20);
    x.set(1, 11);
    due("OTHER", x.takes(0), 0);
  }

  private static void weathers() {
    says("promise 7");
    HalfOrNine x = with("w30,50;w20,300;");
    int[][] want = {{30, 50}, {20, 300}, {50, 100}};
    for (int w = 0; w < 3; w++) {
      for (int what = 0; what < 2; what++) due("weather " + w + " " + what, x.weather(w, what), want[w][what]);
    }
    due("weather 3 ahead of -2", x.weather(3, 5), -1);
    due("weather -1", x.weather(-1, 0), -1);
    due("weather what 2", x.weather(0, 2), -2);
    due("weather what -1", x.weather(0, -1), -2);
    field(x, "w50,1;");
    due("none lacks", x.weather(3, 0), -1);
    due("the third", x.weather(2, 1), 1);
    HalfOrNine y = with("w99,0;");
    due("1 lacks", y.weather(1, 0), 1);
    due("at TIMES 100", y.weather(1, 1), 100);
    refusals(x, 3, 2, 0, 0, 0);
  }

  private static void harvests() {
    says("promise 8");
    HalfOrNine x = with("g9;p1,5;p1,7;w10,50;w10,0;w10,300;w10,33;");
    int[][] want = {{4, 0, 27, 2, 9}, {7, 0, 42, 4, 14}, {10, 0, 63, 6, 21}};
    for (int p = 0; p < 3; p++) {
      for (int w = 0; w < 5; w++) due("harvest " + p + " " + w, x.harvest(p, w), want[p][w]);
    }
    due("PAINS 3", x.harvest(3, 0), -1);
    due("PAINS -1", x.harvest(-1, 0), -1);
    due("WEATHER 5", x.harvest(0, 5), -1);
    due("WEATHER -1", x.harvest(0, -1), -1);
    refusals(x, 4, 0, 0, 0, 0);
    x = with("g99;p0,99;p0,99;p0,99;p0,99;p0,99;p0,99;p0,99;p0,99;");
    field(x, "w1,300;");
    due("the greatest HARVEST", x.harvest(8, 0), 2673);
  }

  private static void whose() {
    says("promise 9");
    HalfOrNine x = ordinary();
    int[][] rows = {{0, 15, 0, 7, 8}, {0, 0, 0, 0, 0}, {1, 5, 0, -4, 9}, {2, 2, 0, 6, -4}, {3, 15, 0, 4, 11},
        {3, 1, 9, -3, 4}, {4, 10, 0, 2, 8}, {4, 10, 1, 5, 5}, {4, 10, 3, 10, 0}, {4, 10, 9, 10, 0}, {5, 9, 0, 4, 5},
        {5, 10, 0, 1, 9}, {5, 4, 0, -1, 5}, {6, 999, 0, 999, 0}};
    for (int[] r : rows) {
      due("whose man " + r[0] + " " + r[1], x.whose(r[0], r[1], r[2], 0), r[3]);
      due("whose owner " + r[0] + " " + r[1], x.whose(r[0], r[1], r[2], 1), r[4]);
    }
    term(x, "t0+7");
    due("twice 0 of a HARVEST 0", x.whose(7, 0, 0, 0), -7);
    x.set(2, 3);
    due("SEED from the man", x.whose(0, 15, 0, 0), 4);
    due("none from the owner", x.whose(0, 15, 0, 1), 8);
    x.set(3, 1);
    due("none from the man", x.whose(0, 15, 0, 0), 7);
    due("SEED from the owner", x.whose(0, 15, 0, 1), 5);
    refusals(x, 0, 0, 0, 0, 0);
    due("no TERM ahead of -4", x.whose(8, -1, 10, 0), TOLD + 1);
    due("no TERM", x.whose(-1, 1, 0, 0), TOLD + 1);
    due("who 2", x.whose(0, 1, 0, 2), TOLD + 1);
    due("who -1", x.whose(0, 1, 0, -1), TOLD + 1);
    due("HARVEST below", x.whose(0, -1, 0, 0), TOLD + 4);
    due("YEAR below ahead of a HARVEST above", x.whose(0, 1000, -1, 0), TOLD + 4);
    due("HARVEST above", x.whose(0, 1000, 0, 0), TOLD + 6);
    due("YEAR above", x.whose(0, 0, 10, 0), TOLD + 6);
    refusals(x, 4, 0, 0, 2, 2);
  }

  private static void minds() {
    says("promise 10");
    HalfOrNine x = with("m10,3;e0,0;");
    int[][] rows = {{0, 0, 0}, {0, 10, 100}, {0, 11, 103}, {0, 999, 3067}, {0, -1, -20}, {0, -999, -19980}, {1, 0, 0},
        {1, 999, 0}, {1, -5, -100}};
    for (int[] r : rows) due("mind " + r[0] + " " + r[1], x.mind(r[0], r[1]), r[2]);
    due("who 2 ahead of -4", x.mind(2, -1000), TOLD + 1);
    due("who -1", x.mind(-1, 0), TOLD + 1);
    due("below", x.mind(0, -1000), TOLD + 4);
    due("above", x.mind(0, 1000), TOLD + 6);
    refusals(x, 2, 0, 0, 1, 1);
  }

  private static void worths() {
    says("promise 11");
    HalfOrNine x = ordinary();
    long[][] rows = {{0, 0, 2500, 2500}, {0, 1, 2500, 4000}, {0, 2, 1500, 5000}, {1, 0, -8500, 9000},
        {1, 1, -7000, 9000}, {1, 2, -7000, 9000}, {2, 2, 3000, 500}, {2, 0, 6000, -4000}, {4, 0, 1000, 4000}};
    for (long[] r : rows) {
      due("worth man " + r[0] + " " + r[1], x.worth((int) r[0], (int) r[1], 0), r[2]);
      due("worth owner " + r[0] + " " + r[1], x.worth((int) r[0], (int) r[1], 1), r[3]);
    }
    x.set(2, 2);
    due("SEED from the man", x.worth(0, 0, 0), -500);
    x.set(3, 1);
    due("SEED from the owner", x.worth(0, 0, 1), -500);
    due("no TERM", x.worth(7, 0, 0), TOLD_LONG + 1);
    due("PAINS 3", x.worth(0, 3, 0), TOLD_LONG + 1);
    due("PAINS -1", x.worth(0, -1, 0), TOLD_LONG + 1);
    due("who 2", x.worth(0, 0, 2), TOLD_LONG + 1);
    refusals(x, 4, 0, 0, 0, 0);
  }

  private static void bestPains() {
    says("promise 12");
    HalfOrNine x = ordinary();
    due("of several the least", x.pains(0), 0);
    due("of several the least, not the first", x.pains(1), 1);
    due("a WAGE", x.pains(2), 0);
    due("all his", x.pains(6), 1);
    due("no TERM", x.pains(7), -1);
    due("no TERM", x.pains(-1), -1);
    refusals(x, 2, 0, 0, 0, 0);
  }

  private static void taking() {
    says("promise 13");
    HalfOrNine x = ordinary();
    due("takes 0", x.takes(0), 1);
    due("does not take what is below", x.takes(1), 0);
    x.set(1, 6);
    due("OTHER just so", x.takes(2), 1);
    x.set(1, 7);
    due("OTHER is more", x.takes(2), 0);
    due("no TERM", x.takes(7), -1);
    due("no TERM", x.takes(-1), -1);
    refusals(x, 2, 0, 0, 0, 0);
  }

  private static void means() {
    says("promise 14");
    HalfOrNine x = ordinary();
    int[][] rows = {{0, 0, 5, 2}, {0, 1, 5, 2}, {1, 0, -3, 2}, {1, 1, 9, 1}, {2, 0, 6, 1}, {2, 1, -1, 1},
        {6, 0, 15, 2}, {6, 1, 0, 1}};
    for (int[] r : rows) {
      due("mean above " + r[0] + " " + r[1], x.mean(r[0], r[1], 0), r[2]);
      due("mean below " + r[0] + " " + r[1], x.mean(r[0], r[1], 1), r[3]);
    }
    due("no TERM ahead of -2", x.mean(7, 0, 5), TOLD + 1);
    due("who 2", x.mean(0, 2, 0), TOLD + 1);
    due("part 2", x.mean(0, 0, 2), TOLD + 2);
    due("part -1", x.mean(0, 0, -1), TOLD + 2);
    refusals(x, 2, 2, 0, 0, 0);
    x = with("g1;w1,300;", "p1/1");
    due("in hundredths", x.mean(0, 0, 0), 51);
    due("in least terms", x.mean(0, 0, 1), 50);
  }

  private static void proofs() {
    String[] fields = {"g10;p3,10;", "g10;p3,10;o5;", "g10;p3,10;o20;", "g10;p3,10;w50,0;", "g99;p0,99;o150;",
        "g99;o39;", "g99;o38;", "g99;p0,99;o100;", "g99;p0,99;o99;", "g10;p0,10;w50,0;"};
    int[] proofs = {117, 5, -9, 0, 148, 160, 160, 7, 6, 1};
    long[] gaps = {0, 0, -9, 500, -9, 0, 1000, -9, 0, 500};
    long[] halves = {7000, 2000, -9, 2500, -9, 10000, 10000, -9, 0, 4500};
    for (int i = 0; i < fields.length; i++) {
      HalfOrNine x = with(fields[i]);
      says("promise 15");
      due("proof " + fields[i], x.proof(), proofs[i]);
      says("promise 16");
      due("gap " + fields[i], x.gap(), gaps[i]);
      says("promise 17");
      due("half " + fields[i], x.half(), halves[i]);
      refusals(x, 0, 0, 0, 0, 0);
    }
    says("promise 16");
    HalfOrNine x = with("g10;p3,10;w50,0;s1,0;");
    due("SEED is his: WAGE 4, not 3", x.gap(), 500);
    x = with("g10;p3,10;w50,0;");
    x.set(2, 1);
    x.set(3, 1);
    due("SEED of the owner's in GAP", x.gap(), 500);
  }

  private static void lesses() {
    says("promise 18");
    HalfOrNine x = with("g10;", "p1/2", "x1/2+9");
    due("all", x.less(0, 0, 0, 0), 10);
    due("as long as it pays", x.less(0, 0, 49, 0), 10);
    due("of several the least", x.less(0, 0, 50, 0), 0);
    due("found", x.less(0, 0, 100, 99), 0);
    x.set(0, 50);
    due("20 at most", x.less(0, 0, 0, 0), 20);
    x.set(0, 0);
    due("of nothing nothing", x.less(0, 0, 100, 0), 0);
    due("no TERM ahead of -4", x.less(2, 0, -1, 0), -1);
    due("PAINS 1", x.less(0, 1, 0, 0), -1);
    due("PAINS -1", x.less(0, -1, 0, 0), -1);
    due("looks below", x.less(0, 0, -1, 0), -4);
    due("fine below ahead of looks above", x.less(0, 0, 101, -1), -4);
    due("looks above", x.less(0, 0, 101, 0), -6);
    due("fine above", x.less(0, 0, 100, 100), -6);
    refusals(x, 3, 0, 0, 2, 2);
    says("promise 19");
    x.set(0, 10);
    due("looks", x.looks(0, 0, 0), 50);
    due("looks with a FINE", x.looks(0, 0, 5), 25);
    due("never", x.looks(1, 0, 0), -9);
    term(x, "w0");
    due("only if he always looks", x.looks(2, 0, 0), 100);
    due("a FINE of 99", x.looks(1, 0, 99), 5);
    x.set(2, 2);
    due("SEED is taken all the same", x.looks(0, 0, 0), 42);
    x.set(3, 1);
    due("the owner's SEED", x.looks(0, 0, 0), 50);
    x.set(0, 0);
    due("of nothing", x.looks(0, 0, 0), 0);
    due("no TERM ahead of -6", x.looks(3, 0, 100), -1);
    due("PAINS 1", x.looks(0, 1, 0), -1);
    due("fine below", x.looks(0, 0, -1), -4);
    due("fine above", x.looks(0, 0, 100), -6);
    refusals(x, 5, 0, 0, 3, 3);
  }

  private static void years() {
    says("promise 20");
    HalfOrNine x = with("g10;", "p1/1", "p4/5", "y1/2+1");
    long[][] rows = {{0, 0, 1, 0, 10000}, {0, 0, 2, 1, 21000}, {0, 0, 3, 3, 37000}, {0, 3, 3, 3, 67000},
        {0, 1, 1, 0, 15000}, {1, 0, 2, 0, 16000}, {2, 0, 2, 1, 16000}};
    for (long[] r : rows) {
      due("set " + r[0] + " " + r[1] + " " + r[2], x.years((int) r[0], (int) r[1], (int) r[2], 0), r[3]);
      due("sum " + r[0] + " " + r[1] + " " + r[2], x.years((int) r[0], (int) r[1], (int) r[2], 1), r[4]);
    }
    due("ten YEARS", x.years(0, 0, 10, 0), 511);
    x.set(4, 20);
    x.set(5, 0);
    due("of like sums not in the first YEAR", x.years(0, 3, 3, 0), 2);
    due("their sum", x.years(0, 3, 3, 1), 56000);
    refusals(x, 0, 0, 0, 0, 0);
    due("no TERM ahead of -2", x.years(3, 0, 1, 2), TOLD_LONG + 1);
    due("what 2 ahead of -4", x.years(0, -1, 1, 2), TOLD_LONG + 2);
    due("what -1", x.years(0, 0, 1, -1), TOLD_LONG + 2);
    due("DUNG below", x.years(0, -1, 1, 0), TOLD_LONG + 4);
    due("n below ahead of DUNG above", x.years(0, 4, 0, 0), TOLD_LONG + 4);
    due("DUNG above", x.years(0, 4, 1, 0), TOLD_LONG + 6);
    due("n above", x.years(0, 0, 11, 0), TOLD_LONG + 6);
    refusals(x, 1, 2, 0, 2, 2);
    x = with("g10;p3,9;", "p1/1");
    due("PAINS each YEAR", x.years(0, 1, 1, 1), 21000);
    says("promise 21");
    x = with("g10;", "p1/1");
    due("leaving 1", x.leaving(0, 1), 5);
    due("leaving 2", x.leaving(0, 2), 3);
    due("no TERM ahead of -4", x.leaving(1, 0), -1);
    due("n below", x.leaving(0, 0), -4);
    due("n above", x.leaving(0, 11), -6);
    refusals(x, 1, 0, 0, 1, 1);
  }

  private static void sorts() {
    says("promise 22");
    HalfOrNine x = with("g10;p3,10;", "p1/2", "f10");
    due("of like ones the first", x.offer(0, 1, 0), 0);
    due("of like ones the first, turned", x.offer(1, 0, 0), 0);
    due("GOOD 1", x.offer(0, 1, 1), 1);
    due("GOOD 1, turned", x.offer(1, 0, 1), 0);
    x.set(1, 8);
    due("none", x.offer(0, 1, 0), -9);
    due("OTHER just so", x.offer(0, 1, 1), 1);
    due("no TERM", x.offer(2, 0, 0), -1);
    due("no other TERM", x.offer(0, 2, 0), -1);
    due("GOOD 10", x.offer(0, 1, 10), -1);
    due("GOOD -1", x.offer(0, 1, -1), -1);
    refusals(x, 4, 0, 0, 0, 0);
    says("promise 23");
    due("none and the other", x.parts(0, 1, 1), 1);
    x.set(1, 9);
    due("none and none", x.parts(0, 1, 1), 0);
    due("none and the other", x.parts(0, 1, 2), 1);
    x.set(1, 0);
    due("one and the other", x.parts(0, 1, 9), 1);
    due("one and one", x.parts(1, 0, 9), 0);
    due("GOOD 0", x.parts(0, 1, 0), -1);
    due("GOOD 10", x.parts(0, 1, 10), -1);
    due("no TERM", x.parts(-1, 1, 1), -1);
    due("no other TERM", x.parts(0, 2, 1), -1);
    refusals(x, 8, 0, 0, 0, 0);
    says("promise 22");
    x = with("g0;p0,5;p0,5;o11;", "f0");
    due("each STEP cut by itself", x.offer(0, 0, 1), -9);
    due("GOOD 2", x.offer(0, 0, 2), 0);
  }

  private static void owns() {
    says("promise 24");
    HalfOrNine x = with("g10;p3,10;", "p1/2");
    due("own 0", x.own(0, 0), 10);
    due("own 4", x.own(0, 4), 10);
    due("of several the least", x.own(0, 5), 1);
    due("own 99", x.own(0, 99), 1);
    due("no TERM ahead of -4", x.own(1, -1), -1);
    due("below", x.own(0, -1), -4);
    due("above", x.own(0, 100), -6);
    refusals(x, 1, 0, 0, 1, 1);
    x = with("g0;p1,0;p5,0;", "f0");
    due("costs as the next STEPS", x.own(0, 3), 1);
    x = with("g0;p1,9;p1,1;p9,9;", "f0");
    due("a pair", x.own(0, 4), 11);
    x = with("g0;p1,9;p1,1;m3,0;s6,0;", "f0");
    due("MIND of all together, SEED taken", x.own(0, 1), 10);
  }

  private static void bearing() {
    says("promise 25");
    HalfOrNine x = with("g10;", "p1/2", "w6", "f9");
    due("no HAIL", x.bears(0, 0), 0);
    due("a PART", x.bears(0, 20), 1000);
    due("a WAGE", x.bears(1, 20), 4000 - (3200 - 2400));
    due("a SUM", x.bears(2, 50), 0);
    due("no TERM ahead of -4", x.bears(3, -1), TOLD_LONG + 1);
    due("below", x.bears(0, -1), TOLD_LONG + 4);
    due("above", x.bears(0, 51), TOLD_LONG + 6);
    refusals(x, 1, 0, 0, 1, 1);
    due("no HAIL stays", x.count(2), 1);
    x = with("g10;w15,200;", "p1/2");
    due("CHANCES cut", x.bears(0, 50), 2900);
    x = with("g10;p3,10;", "p1/2");
    due("other PAINS with it", x.bears(0, 50), 7500);
  }

  /** By seed 1 the DRAWS are 38, 58, 13, 15, 51, 27, 10, 19, 12, 86. */
  private static void debts() {
    says("promise 26");
    HalfOrNine x = ordinary();
    int[][] rows = {{0, 0}, {1, 0}, {2, 3}, {3, 6}, {7, 8}, {8, -9}, {999, -9}};
    for (int[] r : rows) due("ruin with CREDIT " + r[0], x.ruin(0, 0, 1, 2, r[0], 10), r[1]);
    due("not yet", x.ruin(0, 0, 1, 2, 7, 8), -9);
    due("no TERM ahead of -4", x.ruin(7, 0, 1, -1, 0, 1), -1);
    due("no PAINS", x.ruin(0, 3, 1, 0, 0, 1), -1);
    due("LIFE below", x.ruin(0, 0, 1, -1, 0, 1), -4);
    due("CREDIT below ahead of LIFE above", x.ruin(0, 0, 1, 100, -1, 1), -4);
    due("n below ahead of CREDIT above", x.ruin(0, 0, 1, 0, 1000, 0), -4);
    due("LIFE above", x.ruin(0, 0, 1, 100, 0, 1), -6);
    due("CREDIT above", x.ruin(0, 0, 1, 0, 1000, 1), -6);
    due("n above", x.ruin(0, 0, 1, 0, 0, 31), -6);
    refusals(x, 2, 0, 0, 3, 3);
    says("promise 27");
    int[] has = {-2, 1, -1, -3, 0, -2, -4, -6, -8, -5};
    for (int n = 1; n <= 10; n++) due("owes " + n, x.owes(0, 0, 1, 2, n), has[n - 1]);
    x.set(2, 1);
    due("less SEED", x.owes(0, 0, 1, 2, 10), -15);
    x.set(3, 1);
    due("SEED not his", x.owes(0, 0, 1, 2, 10), -5);
    due("thirty YEARS", x.owes(2, 0, LEAST, 99, 30), 30 * (6 - 99));
    due("no TERM", x.owes(-1, 0, 1, 0, 1), TOLD + 1);
    due("no PAINS ahead of -4", x.owes(0, -1, 1, -1, 1), TOLD + 1);
    due("LIFE below", x.owes(0, 0, 1, -1, 31), TOLD + 4);
    due("n below", x.owes(0, 0, 1, 100, 0), TOLD + 4);
    due("LIFE above", x.owes(0, 0, 1, 100, 1), TOLD + 6);
    due("n above", x.owes(0, 0, 1, 0, 31), TOLD + 6);
    refusals(x, 4, 0, 0, 5, 5);
    x = with("g20;", "y1/20+1");
    due("YEARS of a TERM 0 .. 9, then 9", x.owes(0, 0, 5, 0, 12), 75);
  }

  private static void manyDebts() {
    says("promise 28");
    HalfOrNine x = ordinary();
    int[] starts = {1, -7, MOST - 10};
    for (int z : starts) {
      int ruined = 0;
      for (int i = 0; i < 50; i++) {
        if (x.ruin(0, 1, z + i, 4, 6, 7) >= 0) ruined++;
      }
      due("ruins from " + z, x.ruins(0, 1, z, 4, 6, 7, 50), ruined);
    }
    due("one seed", x.ruins(0, 0, 1, 2, 7, 9, 1), 1);
    due("a YEAR less", x.ruins(0, 0, 1, 2, 7, 8, 1), 0);
    due("all", x.ruins(1, 0, 0, 99, 999, 30, 50), 50);
    due("no TERM ahead of -4", x.ruins(7, 0, 1, -1, 0, 1, 1), -1);
    due("no PAINS", x.ruins(0, 3, 1, 0, 0, 1, 1), -1);
    due("LIFE below", x.ruins(0, 0, 1, -1, 0, 1, 51), -4);
    due("CREDIT below", x.ruins(0, 0, 1, 0, -1, 31, 1), -4);
    due("m below", x.ruins(0, 0, 1, 0, 1000, 0, 1), -4);
    due("n below", x.ruins(0, 0, 1, 100, 0, 1, 0), -4);
    due("LIFE above", x.ruins(0, 0, 1, 100, 0, 1, 1), -6);
    due("CREDIT above", x.ruins(0, 0, 1, 0, 1000, 1, 1), -6);
    due("m above", x.ruins(0, 0, 1, 0, 0, 31, 1), -6);
    due("n above", x.ruins(0, 0, 1, 0, 0, 1, 51), -6);
    refusals(x, 2, 0, 0, 4, 4);
  }

  private static void rows() {
    says("promise 29");
    HalfOrNine x = ordinary();
    due("row below", x.row(-1), -4);
    due("row above", x.row(1000), -6);
    for (int i = 1; i <= 16; i++) due("row", x.row(i % 2 == 0 ? 999 : 0), i);
    due("a 17th", x.row(5), -6);
    due("below ahead of no room", x.row(-1), -4);
    due("HARVESTS of the ROW", x.count(5), 16);
    refusals(x, 0, 0, 0, 2, 2);
    says("promise 30");
    due("no PAINS", x.judge(3, 1), -1);
    due("no PAINS", x.judge(-1, 1), -1);
    due("it stays", x.count(5), 16);
    due("the second is not so", x.judge(0, 1), 1);
    due("the ROW has none then", x.count(5), 0);
    due("of none", x.judge(0, 1), -9);
    int[] harvests = {0, 15, 0, 0, 15, 0, 0, 0, 0, 15};
    for (int h : harvests) x.row(h);
    due("all so", x.judge(1, 1), -9);
    due("none then", x.count(5), 0);
    for (int h : harvests) x.row(h);
    due("other PAINS", x.judge(0, 1), 1);
    x.row(7);
    due("the first", x.judge(0, 1), 0);
    refusals(x, 2, 0, 0, 2, 2);
    x = with("w38,0;");
    x.row(10);
    due("a DRAW 38 is not below 38", x.judge(0, 1), -9);
    x = with("w39,0;");
    x.row(0);
    due("but below 39", x.judge(0, 1), -9);
  }

  private static void images() {
    says("promise 31");
    HalfOrNine x = ordinary();
    due("image", x.image(), 7);
    says("promise 32");
    field(x, "g1;p9,9;w9,9;o9;m9,9;e9,9;s9,1;");
    term(x, "w1");
    feed(x, "g");
    x.row(4);
    x.pains(9);
    due("restore", x.restore(), 7);
    due("TERMS", x.count(0), 7);
    due("STEPS", x.count(1), 2);
    due("WEATHERS", x.count(2), 2);
    due("COSTS", x.count(3), 3);
    due("GIVES", x.count(4), 9);
    due("the ROW stays", x.count(5), 1);
    due("the TEXT stays", x.count(6), 1);
    due("REFUSALS stay", x.count(11), 1);
    int[] first = {10, 0, 0, 0, 99, 10, 99, 10};
    for (int what = 0; what < 8; what++) due("set " + what, x.set(what, 1), first[what]);
    due("THE IMAGE stays", x.restore(), 7);
    due("GROWS again", x.set(0, 2), 10);
    due("a TERM again", x.termOf(5, 3), 4);
    says("promise 31");
    due("another IMAGE", x.image(), 7);
    x.restore();
    due("of what is then", x.set(0, 3), 2);
    says("promise 32");
    x = new HalfOrNine();
    due("there is none", x.restore(), -3);
    due("of nothing", x.image(), 0);
    term(x, "w1");
    due("nothing again", x.restore(), 0);
    due("no TERM", x.pains(0), -1);
    due("the next is 0", term(x, "f2"), 0);
    refusals(x, 1, 0, 1, 0, 0);
  }

  private static void counts() {
    says("promise 33");
    HalfOrNine x = ordinary();
    feed(x, "g10");
    x.row(1);
    x.row(2);
    int[] want = {7, 2, 2, 3, 9, 2, 3};
    for (int what = 0; what < want.length; what++) due("count " + what, x.count(what), want[what]);
    for (int what : new int[] {-1, 7, 8, 9, 10, 17, LEAST, MOST}) due("count " + what, x.count(what), -9);
    refusals(x, 0, 0, 0, 0, 0);
  }

  public static void main(String[] args) {
    newObject();
    feeding();
    fields();
    moreFields();
    terms();
    termsOf();
    settings();
    weathers();
    harvests();
    whose();
    minds();
    worths();
    bestPains();
    taking();
    means();
    proofs();
    lesses();
    years();
    sorts();
    owns();
    bearing();
    debts();
    manyDebts();
    rows();
    images();
    counts();
    end();
  }
}
