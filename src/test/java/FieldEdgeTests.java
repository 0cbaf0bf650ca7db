/** The edges of WEATHERS, HARVESTS, MINDS, SHARES and of all that set tells (promises 1, 6, 7, 8, 9, 10). */
public final class FieldEdgeTests extends Checks {
  private static final int[] FIRST = {10, 0, 0, 0, 99, 10, 99, 10};
  private static final int[] GREATEST = {99, 999, 99, 1, 99, 10, 99, 10};
  private static final String EIGHT_STEPS = "p0,1;p0,2;p0,4;p0,8;p0,16;p0,32;p0,64;p0,99;";
  private static final String EACH_KIND[] = {"p2/3", "f7", "w7", "x2/3+4", "y1/4+1", "t7+5"};

  private static void atFirst() {
    says("At first: GROWS 10, no STEPS, no WEATHERS, OTHER 0, both MINDS EDGE 99, LESS 10, SEED 0 by the man");
    HalfOrNine x = new HalfOrNine();
    settingsAre(x, FIRST);
    int[] want = {0, 0, 1, 0, 0, 0, 0};
    for (int what = 0; what < want.length; what++) due("count " + what, x.count(what), want[what]);
    due("HARVEST", x.harvest(0, 0), 10);
    due("no PAINS 1", x.harvest(1, 0), -1);
    due("no WEATHER 1", x.weather(1, 0), -1);
    due("no TERM 0", x.termOf(0, 0), -1);
    due("THE IMAGE", x.restore(), -3);
    for (int who = 0; who < 2; who++) {
      due("MIND of 99", x.mind(who, 99), 990);
      due("MIND of 100", x.mind(who, 100), 1000);
    }
    refusals(x, 3, 0, 1, 0, 0);
  }

  private static void setting() {
    says("set: what it was; -2; -4; -6");
    for (int what = 0; what < 8; what++) {
      HalfOrNine x = new HalfOrNine();
      int[] want = FIRST.clone();
      due("set to 0", x.set(what, 0), FIRST[what]);
      due("set to the greatest", x.set(what, GREATEST[what]), 0);
      due("set once more", x.set(what, GREATEST[what]), GREATEST[what]);
      due("beyond", x.set(what, GREATEST[what] + 1), -6);
      due("beyond", x.set(what, MOST), -6);
      due("below", x.set(what, -1), -4);
      due("below", x.set(what, LEAST), -4);
      refusals(x, 0, 0, 0, 2, 2);
      want[what] = GREATEST[what];
      settingsAre(x, want);
    }
    HalfOrNine x = new HalfOrNine();
    int[] others = {-1, 8, 9, LEAST, MOST};
    int[] numbers = {-1, 0, 5000};
    for (int what : others) {
      for (int v : numbers) due("set " + what + " " + v, x.set(what, v), -2);
    }
    refusals(x, 0, 15, 0, 0, 0);
    settingsAre(x, FIRST);
    says("set and a FIELD tell the same");
    String[] told = {"g21;", "o22;", "s23,1;", "s23,1;", "m24,5;", "m24,5;", "e25,6;", "e25,6;"};
    int[] want = {21, 22, 23, 1, 24, 5, 25, 6};
    for (int what = 0; what < 8; what++) {
      x = with(told[what]);
      due("set " + what + " behind " + told[what], x.set(what, 1), want[what]);
      field(x, told[what]);
      due("set " + what + " behind " + told[what] + " again", x.set(what, 1), want[what]);
    }
  }

  /** All WEATHERS of a FIELD: CHANCE and TIMES one behind the other, and none behind them. */
  private static void weathersAre(String field, int... want) {
    HalfOrNine x = with(field);
    due("WEATHERS of " + field, x.count(2), want.length / 2);
    for (int w = 0; w < want.length / 2; w++) {
      due("CHANCE " + w + " of " + field, x.weather(w, 0), want[2 * w]);
      due("TIMES " + w + " of " + field, x.weather(w, 1), want[2 * w + 1]);
      due("HARVEST " + w + " of " + field, x.harvest(0, w), 10 * want[2 * w + 1] / 100);
    }
    due("no more", x.weather(want.length / 2, 0), -1);
    due("no more", x.weather(want.length / 2, 2), -1);
    due("no HARVEST of it", x.harvest(0, want.length / 2), -1);
    due("what 2", x.weather(0, 2), -2);
    due("what -1", x.weather(0, -1), -2);
    refusals(x, 3, 2, 0, 0, 0);
  }

  private static void lackingChances() {
    says("What CHANCES lack of 100 is a WEATHER behind the others with TIMES 100 (none, if they lack nothing)");
    weathersAre("", 100, 100);
    weathersAre("w1,0;", 1, 0, 99, 100);
    weathersAre("w99,300;", 99, 300, 1, 100);
    weathersAre("w100,0;", 100, 0);
    weathersAre("w50,20;w50,30;", 50, 20, 50, 30);
    weathersAre("w50,20;w49,30;", 50, 20, 49, 30, 1, 100);
    weathersAre("w50,0;w9,1;w10,2;w10,3;w10,4;w10,300;", 50, 0, 9, 1, 10, 2, 10, 3, 10, 4, 10, 300, 1, 100);
    weathersAre("w50,0;w10,1;w10,2;w10,3;w10,4;w10,300;", 50, 0, 10, 1, 10, 2, 10, 3, 10, 4, 10, 300);
    weathersAre("w1,9;w1,9;w1,9;w1,9;w1,9;w1,9;", 1, 9, 1, 9, 1, 9, 1, 9, 1, 9, 1, 9, 94, 100);
  }

  private static void harvests() {
    says("PAINS are 0 .. how many STEPS: so many STEPS are done, the first ones");
    HalfOrNine x = with("g0;" + EIGHT_STEPS);
    int[] want = {0, 1, 3, 7, 15, 31, 63, 127, 226};
    for (int pains = 0; pains <= 8; pains++) due("HARVEST of PAINS " + pains, x.harvest(pains, 0), want[pains]);
    int[] none = {-1, 9, LEAST, MOST};
    for (int n : none) {
      due("HARVEST of PAINS " + n, x.harvest(n, 0), -1);
      due("HARVEST in WEATHER " + n, x.harvest(0, n), -1);
      due("HARVEST of neither", x.harvest(n, n), -1);
    }
    refusals(x, 12, 0, 0, 0, 0);
    x = with("g0;p0,5;");
    due("PAINS 1 of one STEP", x.harvest(1, 0), 5);
    due("PAINS 2 of one STEP", x.harvest(2, 0), -1);
    says("HARVEST: GROWS and GIVES of these STEPS, times TIMES, by 100, cut");
    x = with("g1;p0,1;p0,97;w10,0;w10,1;w10,50;w10,99;w10,199;w10,300;");
    int[][] table = {{0, 0, 0, 0, 1, 3, 1}, {0, 0, 1, 1, 3, 6, 2}, {0, 0, 49, 98, 197, 297, 99}};
    for (int pains = 0; pains < 3; pains++) {
      for (int w = 0; w < 7; w++) due("HARVEST " + pains + " in " + w, x.harvest(pains, w), table[pains][w]);
    }
    x = with("g99;" + many(8, "p99,99;"));
    due("the greatest with TIMES 100", x.harvest(8, 0), 891);
    field(x, "w100,300;");
    due("the greatest", x.harvest(8, 0), 2673);
    due("all COSTS", x.count(3), 792);
    due("all GIVES", x.count(4), 792);
    x.set(0, 0);
    due("GROWS 0, no PAINS", x.harvest(0, 0), 0);
  }

  private static void mindIs(HalfOrNine x, int who, int... pairs) {
    for (int i = 0; i < pairs.length; i += 2) due("mind " + who + " " + pairs[i], x.mind(who, pairs[i]), pairs[i + 1]);
  }

  private static void minds() {
    says("MIND of n bushels: 10 for each up to EDGE (below 0: 20 less for each that lacks), LESS for each above");
    HalfOrNine x = new HalfOrNine();
    mindIs(x, 0, 0, 0, 1, 10, 99, 990, 100, 1000, 999, 9990, -1, -20, -2, -40, -999, -19980);
    x = with("m10,3;e11,0;");
    mindIs(x, 0, 9, 90, 10, 100, 11, 103, 12, 106, 999, 3067, -1, -20);
    mindIs(x, 1, 10, 100, 11, 110, 12, 110, 999, 110, -1, -20);
    x = with("m0,0;e0,10;");
    mindIs(x, 0, 0, 0, 1, 0, 999, 0, -1, -20, -999, -19980);
    mindIs(x, 1, 0, 0, 1, 10, 999, 9990, -1, -20, -999, -19980);
    x = with("m99,0;e1,1;");
    mindIs(x, 0, 98, 980, 99, 990, 100, 990, 999, 990);
    mindIs(x, 1, 1, 10, 2, 11, 999, 1008);
    says("mind: n bushels (-999 .. 999); -1 who; -4; -6");
    int[] nobody = {-1, 2, LEAST, MOST};
    int[] numbers = {-1000, 0, 1000};
    for (int who : nobody) {
      for (int n : numbers) due("mind " + who + " " + n, x.mind(who, n), TOLD + 1);
    }
    for (int who = 0; who < 2; who++) {
      due("below", x.mind(who, -1000), TOLD + 4);
      due("below", x.mind(who, LEAST), TOLD + 4);
      due("above", x.mind(who, 1000), TOLD + 6);
      due("above", x.mind(who, MOST), TOLD + 6);
    }
    refusals(x, 12, 0, 0, 4, 4);
  }

  /** Of one TERM: HARVEST, YEAR, the man's SHARE, one behind the other. */
  private static void shareIs(String term, int... want) {
    HalfOrNine x = with("", term);
    for (int i = 0; i < want.length; i += 3) {
      String call = term + " of " + want[i] + " in " + want[i + 1];
      due("the man's by " + call, x.whose(0, want[i], want[i + 1], 0), want[i + 2]);
      due("the owner's by " + call, x.whose(0, want[i], want[i + 1], 1), want[i] - want[i + 2]);
    }
    refusals(x, 0, 0, 0, 0, 0);
  }

  private static void shares() {
    says("PART h times A by B, cut");
    shareIs("p1/99", 0, 0, 0, 98, 0, 0, 99, 0, 1, 197, 0, 1, 198, 9, 2, 999, 9, 10);
    shareIs("p99/99", 0, 0, 0, 1, 0, 1, 999, 9, 999);
    shareIs("p98/99", 1, 0, 0, 2, 0, 1, 98, 0, 97, 99, 0, 98, 999, 5, 988);
    says("SUM h less N; below 0 he owes");
    shareIs("f0", 0, 0, 0, 999, 9, 999);
    shareIs("f99", 0, 0, -99, 98, 0, -1, 99, 0, 0, 100, 0, 1, 999, 9, 900);
    says("WAGE N");
    shareIs("w0", 0, 0, 0, 999, 9, 0);
    shareIs("w99", 0, 0, 99, 98, 0, 99, 999, 9, 99);
    says("MIXED a PART's less N");
    shareIs("x1/2+0", 0, 0, 0, 1, 0, 0, 2, 0, 1, 999, 9, 499);
    shareIs("x1/2+99", 0, 0, -99, 1, 0, -99, 197, 0, -1, 198, 0, 0, 200, 9, 1);
    says("YEARS h times (A plus N times y; B at most) over B, cut");
    shareIs("y1/9+1", 9, 0, 1, 9, 1, 2, 9, 7, 8, 9, 8, 9, 9, 9, 9, 10, 0, 1, 10, 4, 5, 10, 8, 10, 999, 9, 999);
    shareIs("y1/10+1", 10, 8, 9, 10, 9, 10, 9, 8, 8, 9, 9, 9);
    shareIs("y1/2+0", 9, 0, 4, 9, 1, 4, 9, 9, 4);
    shareIs("y1/99+99", 99, 0, 1, 98, 0, 0, 98, 1, 98, 999, 1, 999, 999, 9, 999);
    shareIs("y99/99+99", 999, 0, 999, 0, 9, 0);
    shareIs("y1/99+10", 99, 9, 91, 99, 0, 1);
    says("TOLD h less N, and less M more, if h is twice N or more");
    shareIs("t8+4", 0, 0, -8, 7, 0, -1, 8, 0, 0, 15, 0, 7, 16, 0, 4, 17, 9, 5, 999, 9, 987);
    shareIs("t0+5", 0, 0, -5, 1, 0, -4, 5, 9, 0);
    shareIs("t9+0", 17, 0, 8, 18, 0, 9);
    shareIs("t99+99", 197, 0, 98, 198, 0, 0, 999, 9, 801);
  }

  private static void seeds() {
    says("SEED is taken from whose BY it is; what he does not have the owner has (h less his SHARE, before SEED)");
    int[] harvests = {0, 1, 13, 14, 999};
    int[] amounts = {0, 1, 99};
    HalfOrNine x = with("", EACH_KIND);
    for (int t = 0; t < 6; t++) {
      for (int h : harvests) {
        x.set(2, 0);
        int share = x.whose(t, h, 1, 0);
        int amount = amounts[(t + h) % 3];
        x.set(2, amount);
        x.set(3, 0);
        due("the man's SEED", x.whose(t, h, 1, 0), share - amount);
        due("not the owner's", x.whose(t, h, 1, 1), h - share);
        x.set(3, 1);
        due("not the man's SEED", x.whose(t, h, 1, 0), share);
        due("the owner's", x.whose(t, h, 1, 1), h - share - amount);
      }
    }
  }

  private static void whoseRefusals() {
    says("whose: a HARVEST (0 .. 999), a YEAR (0 .. 9); -1 (TERM, who); -4; -6");
    HalfOrNine x = with("", "f1");
    due("999 in 9", x.whose(0, 999, 9, 0), 998);
    due("0 in 0", x.whose(0, 0, 0, 1), 1);
    int[] nobody = {-1, 1, 7, 8, LEAST, MOST};
    for (int t : nobody) due("TERM " + t + " ahead of all", x.whose(t, 1000, -1, 2), TOLD + 1);
    int[] noWho = {-1, 2, LEAST, MOST};
    for (int who : noWho) due("who " + who + " ahead of -4, -6", x.whose(0, -1, 10, who), TOLD + 1);
    due("-4 of the HARVEST ahead of -6 of the YEAR", x.whose(0, -1, 10, 0), TOLD + 4);
    due("-4 of the YEAR ahead of -6 of the HARVEST", x.whose(0, 1000, -1, 0), TOLD + 4);
    due("-4 of either", x.whose(0, LEAST, LEAST, 0), TOLD + 4);
    due("-6 of the HARVEST", x.whose(0, 1000, 9, 1), TOLD + 6);
    due("-6 of the YEAR", x.whose(0, 999, 10, 1), TOLD + 6);
    due("-6 of either", x.whose(0, MOST, MOST, 1), TOLD + 6);
    refusals(x, 10, 0, 0, 3, 3);
  }

  public static void main(String[] args) {
    atFirst();
    setting();
    lackingChances();
    harvests();
    minds();
    shares();
    seeds();
    whoseRefusals();
    end();
  }
}
