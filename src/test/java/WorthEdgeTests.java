/** The edges of section II: WORTH to MEAN, PROOF, GAP, HALF, BEST LESS and LOOKS (promises 11 to 19). */
public final class WorthEdgeTests extends Checks {
  private static void worthIs(HalfOrNine x, int term, int pains, long man, long owner) {
    due("worth " + term + " " + pains + " man", x.worth(term, pains, 0), man);
    due("worth " + term + " " + pains + " owner", x.worth(term, pains, 1), owner);
  }

  private static void worths() {
    says("WORTH: the sum over WEATHERS of CHANCE times MIND (in YEAR 0); of the man's 1000 less for each unit of COST");
    HalfOrNine x = with("g10;p3,10;w25,0;w25,200;", "p1/2", "f15", "y1/2+1", "w6");
    worthIs(x, 0, 0, 5000, 5000);
    worthIs(x, 0, 1, 7000, 10000);
    worthIs(x, 1, 0, -11250, 15000);
    worthIs(x, 1, 1, -1750, 15000);
    worthIs(x, 2, 0, 5000, 5000);
    worthIs(x, 2, 1, 7000, 10000);
    worthIs(x, 3, 0, 6000, 2500);
    worthIs(x, 3, 1, 3000, 12500);
    x.set(2, 4);
    worthIs(x, 0, 0, 0, 5000);
    x.set(3, 1);
    worthIs(x, 0, 0, 5000, 0);
    says("WORTH with no STEPS and 8, with 6 WEATHERS and one that lacks");
    x = with("g0;p1,0;p2,0;p3,0;p4,0;p5,0;p6,0;p7,0;p8,0;", "w0");
    for (int p = 0; p <= 8; p++) worthIs(x, 0, p, -500 * p * (p + 1), 0);
    x = with("w10,0;w10,10;w10,20;w10,30;w10,40;w10,50;", "f0");
    worthIs(x, 0, 0, 5500, 0);
    x = with("", "f0", "w0");
    worthIs(x, 0, 0, 10000, 0);
    worthIs(x, 1, 0, 0, 10000);
    says("WORTH: the greatest and the least");
    x = with("g99;" + many(8, "p99,99;"), "f0", "f99");
    field(x, "w100,300;");
    worthIs(x, 0, 8, 2673000 - 792000, 0);
    x = with("g0;" + many(8, "p99,0;"), "f0", "f99");
    field(x, "s99,0;");
    worthIs(x, 1, 8, -396000 - 792000, 99000);
    says("worth: -1 any");
    int[] none = {-1, 9, LEAST, MOST};
    for (int n : none) {
      due("no TERM " + n, x.worth(n, 0, 0), TOLD_LONG + 1);
      due("no PAINS " + n, x.worth(0, n, 0), TOLD_LONG + 1);
      due("no who " + n, x.worth(0, 0, n), TOLD_LONG + 1);
    }
    due("no TERM 2 of two", x.worth(2, 0, 0), TOLD_LONG + 1);
    due("no who 2", x.worth(0, 0, 2), TOLD_LONG + 1);
    due("none of three", x.worth(2, 9, 2), TOLD_LONG + 1);
    refusals(x, 15, 0, 0, 0, 0);
  }

  private static void painsAre(String field, String term, int want) {
    due("pains of " + term + " on " + field, with(field, term).pains(0), want);
  }

  private static void bestPains() {
    says("BEST PAINS: those with the man's greatest WORTH, of several the least");
    painsAre("", "f0", 0);
    painsAre("g10;p1,2;", "p1/2", 0);
    painsAre("g10;p1,2;", "f0", 1);
    painsAre("g10;p1,2;p1,1;", "f0", 1);
    painsAre("g10;p1,0;p0,2;", "f0", 2);
    painsAre("g10;p2,2;p0,1;p0,0;", "f0", 2);
    painsAre(many(8, "p0,1;"), "f0", 8);
    painsAre(many(8, "p1,1;"), "f0", 0);
    painsAre(many(8, "p0,0;"), "f0", 0);
    painsAre(many(7, "p1,0;") + "p0,99;", "f0", 8);
    painsAre(many(7, "p1,0;") + "p0,7;", "f0", 0);
    painsAre(many(7, "p1,0;") + "p0,8;", "f0", 8);
    painsAre("g10;p1,5;", "w99", 0);
    painsAre("g10;p9,10;", "f0", 1);
    painsAre("g10;p10,10;", "f0", 0);
    painsAre("g90;p8,10;m99,0;", "f0", 1);
    painsAre("g90;p9,10;m99,0;", "f0", 0);
    painsAre("g0;p1,10;w1,110;m0,1;", "f0", 1);
    painsAre("g0;p1,10;w1,100;m0,1;", "f0", 0);
    says("BEST PAINS in YEAR 0");
    painsAre("g10;p1,2;", "y1/2+1", 0);
  }

  private static void takesIs(String field, String term, int want) {
    due("takes of " + term + " on " + field, with(field, term).takes(0), want);
  }

  private static void taking() {
    says("TAKES: whether that is OTHER times 1000 or more");
    takesIs("o10;", "f0", 1);
    takesIs("o11;", "f0", 0);
    takesIs("g15;w1,95;m5,1;o6;", "f0", 0);
    takesIs("g15;w1,95;m5,1;o5;", "f0", 1);
    takesIs("g15;w1,100;m5,1;o6;", "f0", 1);
    takesIs("", "f10", 1);
    takesIs("", "f11", 0);
    takesIs("g1;w1,0;", "f1", 0);
    takesIs("g10;p3,10;o17;", "f0", 1);
    takesIs("g10;p3,10;o18;", "f0", 0);
    takesIs("g36;" + many(3, "p0,99;") + "w100,300;o999;", "f0", 1);
    takesIs("g35;" + many(3, "p0,99;") + "w100,300;o999;", "f0", 0);
    says("pains, takes: -1");
    HalfOrNine x = with("", "f1");
    int[] none = {-1, 1, 7, 8, LEAST, MOST};
    for (int n : none) {
      due("pains of no TERM " + n, x.pains(n), -1);
      due("takes of no TERM " + n, x.takes(n), -1);
    }
    refusals(x, 12, 0, 0, 0, 0);
  }

  private static void meanIs(HalfOrNine x, int who, int above, int below) {
    due("mean above " + who, x.mean(0, who, 0), above);
    due("mean below " + who, x.mean(0, who, 1), below);
  }

  private static void means() {
    says("MEAN: bushels that one has by CHANCE, by 100, in least terms (0 by 1)");
    int[] chances = {1, 2, 4, 5, 8, 10, 20, 25, 50, 75, 100};
    int[] below = {100, 50, 25, 20, 25, 10, 5, 4, 2, 4, 1};
    for (int i = 0; i < chances.length; i++) {
      String field = "g1;w" + chances[i] + ",0;";
      int part = 100 / below[i];
      HalfOrNine x = with(field, "f0");
      meanIs(x, 0, (100 - chances[i]) / part, below[i]);
      meanIs(x, 1, 0, 1);
      x = with(field, "f1");
      meanIs(x, 0, -chances[i] / part, below[i]);
      meanIs(x, 1, 1, 1);
      x = with(field, "w1");
      meanIs(x, 0, 1, 1);
      meanIs(x, 1, -chances[i] / part, below[i]);
    }
    meanIs(with("g3;w35,0;", "f0"), 0, 39, 20);
    meanIs(with("g10;m1,0;", "f0"), 0, 10, 1);
    meanIs(with("s10,0;", "f0"), 0, 0, 1);
    meanIs(with("s6,1;", "p1/2"), 1, -1, 1);
    says("MEAN of one of both at his BEST PAINS (YEAR 0)");
    meanIs(with("g10;p3,10;", "p1/2"), 0, 10, 1);
    meanIs(with("g10;p3,10;", "p1/2"), 1, 10, 1);
    meanIs(with("g10;p11,10;", "p1/2"), 1, 5, 1);
    meanIs(with("", "y1/2+1"), 0, 5, 1);
    says("mean: -1; -2");
    HalfOrNine x = with("", "f1");
    int[] none = {-1, 2, LEAST, MOST};
    for (int n : none) {
      due("no TERM ahead of no part", x.mean(n, 0, n), TOLD + 1);
      due("no who ahead of no part", x.mean(0, n, n), TOLD + 1);
      due("no part", x.mean(0, 0, n), TOLD + 2);
    }
    due("no TERM 1 of one", x.mean(1, 0, 0), TOLD + 1);
    refusals(x, 9, 4, 0, 0, 0);
  }

  private static void proofIs(String field, int proof, long gap, long half) {
    HalfOrNine x = with(field);
    due("proof of " + field, x.proof(), proof);
    due("gap of " + field, x.gap(), gap);
    due("half of " + field, x.half(), half);
    refusals(x, 0, 0, 0, 0, 0);
    due("no TERM comes", x.count(0), 0);
  }

  private static void proofs() {
    says("PROOF: of several PARTS first, then the least number");
    proofIs("", 0, 0, 5000);
    proofIs("g10;e5,0;", 0, 0, 0);
    proofIs("g10;o5;e4,0;", 6, 0, 0);
    proofIs("g99;p0,99;o150;e40,0;", 140, -9, -9);
    proofIs("g99;p0,99;o150;e33,0;", 10, -9, -9);
    says("PROOF: PARTS A by 12 (A 0 .. 12)");
    proofIs("g10;o10;", 12, 0, -9);
    proofIs("g12;o12;", 12, 0, -9);
    proofIs("g12;o13;", -9, -9, -9);
    proofIs("g0;", 0, 0, 0);
    says("PROOF: SUMS 0 .. 60");
    proofIs("g99;o40;", 159, 0, 9000);
    proofIs("g99;o39;", 160, 0, 10000);
    proofIs("g99;o38;", 160, 1000, 10000);
    says("-9, if there is no PROOF or there are no such PAINS");
    proofIs("g10;o11;", -9, -9, -9);
    proofIs("g99;p0,99;o100;", 7, -9, -9);
    says("GAP: 0 at least");
    proofIs("g10;w50,0;w50,200;o2;", 3, 0, 2500);
    says("GAP: a WAGE, the least 0 .. 99 with which he, bound to these PAINS, TAKES");
    proofIs("g0;p99,99;p0,99;", 7, 16000, 83000);
    proofIs("g0;p99,99;p1,99;", 7, 0, 83000);
    proofIs("g0;p60,99;p60,99;", 8, 0, 66000);
    proofIs("g10;p3,10;w50,0;", 0, 500, 2500);
    proofIs("g0;p0,20;w50,0;", 1, 500, 4500);
    proofIs("g99;p0,99;m0,5;o49;", 6, 1000, 0);
    proofIs("g99;p0,99;m0,5;o50;", 7, -9, -9);
    proofIs("g99;p0,99;m0,7;o69;", 6, 0, 0);
    says("SEED is taken in GAP, too, where it is his");
    proofIs("g10;s5,0;", 6, 0, 0);
    proofIs("g10;s5,1;", 0, 0, 5000);
    says("the owner's SEED in PROOF, GAP, HALF: WORTHS below 0");
    proofIs("g0;s99,1;", 0, 0, 0);
  }

  private static void lessIs(String field, String term, int looks, int fine, int want) {
    due("less by " + looks + " " + fine + " of " + term + " on " + field,
        with(field, term).less(0, 0, looks, fine), want);
  }

  private static void lesses() {
    says("SAYS: up to c (0 .. 20) bushels less (0 at least) in each WEATHER");
    lessIs("g19;", "w0", 0, 0, 19);
    lessIs("g20;", "w0", 0, 0, 20);
    lessIs("g21;", "w0", 0, 0, 20);
    lessIs("g10;", "w99", 0, 99, 10);
    lessIs("g10;w50,200;", "w0", 0, 0, 20);
    lessIs("g1;", "w0", 0, 0, 1);
    lessIs("g10;", "t4+4", 0, 0, 3);
    says("BEST LESS: of several the least");
    lessIs("g10;", "f9", 0, 0, 0);
    lessIs("g10;", "f9", 100, 0, 0);
    lessIs("g10;m5,0;", "w0", 0, 0, 5);
    lessIs("g10;", "x1/2+9", 100, 0, 1);
    lessIs("g10;", "x1/2+9", 100, 3, 1);
    lessIs("g10;", "x1/2+9", 100, 4, 0);
    says("BEST LESS of a TERM in YEAR 0");
    lessIs("g10;", "y1/2+9", 0, 0, 10);
    says("of a HARVEST 0 nothing is held back");
    lessIs("g0;", "w0", 0, 0, 0);
    lessIs("g0;", "w0", 100, 99, 0);
    lessIs("g10;w50,0;", "w0", 10, 40, 10);
    says("what is found by LOOKS is weighed by hundredths, nothing is cut");
    lessIs("g1;w99,0;", "w0", 95, 0, 1);
    lessIs("g1;w99,0;", "w0", 99, 0, 1);
    lessIs("g1;w99,0;", "w0", 100, 0, 0);
    lessIs("g10;", "t4+4", 66, 0, 3);
    lessIs("g10;", "t4+4", 67, 0, 0);
    says("less with PAINS");
    HalfOrNine x = with("g0;p9,10;", "w0");
    due("of PAINS 0", x.less(0, 0, 0, 0), 0);
    due("of PAINS 1", x.less(0, 1, 0, 0), 10);
    due("LOOKS of PAINS 0", x.looks(0, 0, 0), 0);
    due("LOOKS of PAINS 1", x.looks(0, 1, 0), 100);
  }

  private static void looksIs(String field, String term, int fine, int want) {
    due("looks with " + fine + " of " + term + " on " + field, with(field, term).looks(0, 0, fine), want);
  }

  private static void looking() {
    says("LOOKS: the least hundredths with which BEST LESS is 0; -9");
    looksIs("g10;", "f9", 0, 0);
    looksIs("g0;", "w0", 99, 0);
    looksIs("g10;", "t4+4", 0, 67);
    looksIs("g10;", "t4+4", 1, 50);
    looksIs("g10;", "t4+4", 99, 2);
    looksIs("g10;", "p1/2", 0, 50);
    looksIs("g10;", "w0", 0, 100);
    looksIs("g1;w99,0;", "w0", 0, 100);
    looksIs("g10;w50,0;", "w0", 40, 12);
    looksIs("g10;", "x1/2+9", 0, -9);
    looksIs("g10;", "x1/2+9", 3, -9);
    looksIs("g10;", "x1/2+9", 4, 100);
    looksIs("g10;", "x1/2+9", 5, 82);
    looksIs("g2;w2,100;w1,200;w97,0;", "t1+99", 97, -9);
    looksIs("g2;w2,100;w1,200;w97,0;", "t1+99", 98, 100);
    says("LOOKS of a TERM with PAINS in YEAR 0");
    looksIs("g10;", "y2/3+1", 0, 40);
    due("PAINS 1", with("g0;p9,10;", "p1/2").looks(0, 1, 0), 50);
    says("found, he has nothing and pays a FINE; SEED is taken all the same");
    looksIs("g10;s2,0;", "p1/2", 0, 42);
    looksIs("g10;s2,1;", "p1/2", 0, 50);
  }

  private static void refusalsOfSaying() {
    says("less: -1; -4; -6 (100; 99); looks: -9 is none; -1; -4; -6 99");
    HalfOrNine x = with("p1,1;", "x1/2+9");
    due("the greatest", x.less(0, 1, 100, 99), 0);
    due("the least", x.less(0, 0, 0, 0), 10);
    due("the greatest FINE", x.looks(0, 1, 99) > 0 ? 1 : 0, 1);
    due("-9", x.looks(0, 0, 0), -9);
    refusals(x, 0, 0, 0, 0, 0);
    int[] none = {-1, 2, LEAST, MOST};
    for (int n : none) {
      due("no TERM", x.less(n, 0, -1, 100), -1);
      due("no PAINS", x.less(0, n, 101, -1), -1);
      due("no TERM", x.looks(n, 0, -1), -1);
      due("no PAINS", x.looks(0, n, 100), -1);
    }
    due("no TERM 1 of one", x.less(1, 0, 0, 0), -1);
    due("no TERM 1 of one", x.looks(1, 0, 0), -1);
    due("-4 of LOOKS", x.less(0, 0, -1, 0), -4);
    due("-4 of LOOKS ahead of -6 of the FINE", x.less(0, 0, -1, 100), -4);
    due("-4 of the FINE ahead of -6 of LOOKS", x.less(0, 0, 101, -1), -4);
    due("-4 of the FINE", x.less(0, 0, 100, -1), -4);
    due("-6 of LOOKS", x.less(0, 0, 101, 99), -6);
    due("-6 of the FINE", x.less(0, 0, 100, 100), -6);
    due("-6 of both", x.less(0, 0, MOST, MOST), -6);
    due("-4 of looks", x.looks(0, 0, -1), -4);
    due("-4 of looks", x.looks(0, 0, LEAST), -4);
    due("-6 of looks", x.looks(0, 0, 100), -6);
    due("-6 of looks", x.looks(0, 0, MOST), -6);
    refusals(x, 18, 0, 0, 6, 5);
  }

  public static void main(String[] args) {
    worths();
    bestPains();
    taking();
    means();
    proofs();
    lesses();
    looking();
    refusalsOfSaying();
    end();
  }
}
