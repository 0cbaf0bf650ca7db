import java.math.BigInteger;

/** The edges of section III: YEARS, SORTS of men, OWN, HAIL and DEBTS (promises 20 to 28). */
public final class YearEdgeTests extends Checks {
  private static final int[] SEEDS = {0, 1, 2, -1, -7, 12345, LEAST, LEAST + 1, MOST, MOST - 1, 1 << 30, -(1 << 30)};

  private static void yearsAre(HalfOrNine x, int dung, int n, long set, long sum) {
    due("set of years from " + dung + " for " + n, x.years(0, dung, n, 0), set);
    due("sum of years from " + dung + " for " + n, x.years(0, dung, n, 1), sum);
  }

  private static void years() {
    says("YEARS: GROWS is 5 more for each DUNG (0 .. 3); DUNG for COST 4");
    HalfOrNine x = with("", "f0");
    for (int dung = 0; dung <= 3; dung++) yearsAre(x, dung, 1, 0, 10000 + 5000 * dung);
    yearsAre(x, 0, 2, 1, 21000);
    yearsAre(x, 1, 2, 1, 31000);
    yearsAre(x, 2, 2, 1, 41000);
    says("one more next YEAR (3 at most); without it one less next YEAR (0 at least)");
    yearsAre(x, 3, 2, 1, 46000);
    yearsAre(x, 0, 10, 511, 184000);
    yearsAre(x, 3, 10, 511, 214000);
    x = with("", "w0");
    for (int n = 1; n <= 10; n++) yearsAre(x, n % 4, n, 0, 0);
    x = with("g10;p99,99;", "p4/5");
    yearsAre(x, 0, 1, 0, 8000);
    says("HARVEST with DUNG: times TIMES, by 100, cut");
    x = with("g10;w100,50;", "f0");
    yearsAre(x, 0, 2, 0, 10000);
    yearsAre(x, 1, 2, 1, 13000);
    yearsAre(x, 2, 2, 1, 18000);
    yearsAre(x, 3, 2, 0, 22000);
    x = with("g99;", "f0");
    yearsAre(x, 3, 1, 0, 114000);
    says("he takes each YEAR his BEST PAINS; YEARS are counted from 0 on");
    x = with("g10;p6,10;", "y1/2+1");
    yearsAre(x, 0, 1, 0, 5000);
    yearsAre(x, 0, 2, 1, 20000);
    x = with("g20;", "y1/4+1");
    yearsAre(x, 0, 1, 0, 5000);
    yearsAre(x, 0, 2, 0, 15000);
    yearsAre(x, 0, 3, 3, 31000);
    yearsAre(x, 0, 4, 7, 62000);
    says("ties: not; of like sums he does not DUNG, YEAR by YEAR from the first on");
    x = with("", "p4/5");
    yearsAre(x, 0, 2, 0, 16000);
    yearsAre(x, 1, 2, 1, 24000);
    yearsAre(x, 3, 2, 0, 36000);
    yearsAre(x, 0, 3, 3, 28000);
    x = with("m20,0;", "f0");
    yearsAre(x, 3, 3, 2, 56000);
    yearsAre(x, 3, 4, 2, 76000);
    due("DUNG is no more then", x.harvest(0, 0), 10);
  }

  private static void refusalsOfYears() {
    says("years: -1; -2; -4; -6 (3; 10)");
    HalfOrNine x = with("", "f0");
    int[] none = {-1, 1, 8, LEAST, MOST};
    for (int n : none) due("no TERM ahead of all", x.years(n, -1, 11, 2), TOLD_LONG + 1);
    int[] others = {-1, 2, LEAST, MOST};
    for (int n : others) due("what ahead of -4, -6", x.years(0, -1, 11, n), TOLD_LONG + 2);
    due("-4 of DUNG", x.years(0, -1, 1, 0), TOLD_LONG + 4);
    due("-4 of DUNG ahead of -6 of n", x.years(0, -1, 11, 0), TOLD_LONG + 4);
    due("-4 of n", x.years(0, 0, 0, 1), TOLD_LONG + 4);
    due("-4 of n ahead of -6 of DUNG", x.years(0, 4, 0, 1), TOLD_LONG + 4);
    due("-6 of DUNG", x.years(0, 4, 10, 0), TOLD_LONG + 6);
    due("-6 of n", x.years(0, 3, 11, 0), TOLD_LONG + 6);
    due("-6 of both", x.years(0, MOST, MOST, 0), TOLD_LONG + 6);
    refusals(x, 5, 4, 0, 4, 3);
    says("leaving: -1; -4; -6 10");
    for (int n : none) due("no TERM ahead of -4, -6", x.leaving(n, n), -1);
    due("-4", x.leaving(0, 0), -4);
    due("-4", x.leaving(0, LEAST), -4);
    due("-6", x.leaving(0, 11), -6);
    due("-6", x.leaving(0, MOST), -6);
    refusals(x, 10, 4, 0, 6, 5);
  }

  private static void leavingIs(String field, String term, int... want) {
    HalfOrNine x = with(field, term);
    for (int n = 1; n <= want.length; n++) {
      due("leaving of " + term + " on " + field + " for " + n, x.leaving(0, n), want[n - 1]);
    }
    refusals(x, 0, 0, 0, 0, 0);
  }

  /** With any TERM he DUNGS in the last YEAR for a pay of 5 (one DUNG more at least), so that -9 can not come. */
  private static void leaving() {
    says("LEAVING: the least pay a DUNG that lies there at the end for which he DUNGS in the last YEAR");
    leavingIs("", "f0", 5, 3, 3, 5, 5, 5, 5, 5, 5, 5);
    leavingIs("", "w0", 5, 5, 5, 5, 5, 5, 5, 5, 5, 5);
    leavingIs("", "p4/5", 5, 3);
    leavingIs("g0;" + many(8, "p99,0;"), "f99", 5);
    leavingIs("g10;w99,80;m0,5;", "f0", 5, 3);
  }

  private static void offerIs(HalfOrNine x, int one, int other, int good, int want) {
    due("offer " + one + " " + other + " " + good, x.offer(one, other, good), want);
  }

  private static void sorts() {
    says("SORTS of men: GOOD 0 .. 9 each has GIVES of each STEP times (10 and GOOD) by 10, cut");
    int[] gives = {5, 5, 6, 6, 7, 7, 8, 8, 9, 9};
    for (int good = 0; good <= 9; good++) {
      HalfOrNine x = with("g10;p3,5;", "f0");
      x.set(1, 7 + gives[good]);
      offerIs(x, 0, 0, good, gives[good] > 3 ? 0 : -9);
      x.set(1, 8 + gives[good]);
      offerIs(x, 0, 0, good, -9);
      x = with("g0;p0,5;p0,5;", "f0");
      x.set(1, 2 * gives[good]);
      offerIs(x, 0, 0, good, 0);
      x.set(1, 2 * gives[good] + 1);
      offerIs(x, 0, 0, good, -9);
    }
    HalfOrNine x = with("g0;p0,99;o188;", "f0");
    offerIs(x, 0, 0, 9, 0);
    x.set(1, 189);
    offerIs(x, 0, 0, 9, -9);
    due("GIVES stay", x.harvest(1, 0), 99);
    says("OFFER: that of which his WORTH is greater (ties: the first), or none, if that is below OTHER");
    x = with("", "f4", "p3/5", "w7", "w5");
    offerIs(x, 0, 1, 0, 0);
    offerIs(x, 1, 0, 0, 0);
    offerIs(x, 0, 2, 0, 1);
    offerIs(x, 2, 0, 0, 0);
    offerIs(x, 0, 3, 0, 0);
    offerIs(x, 3, 0, 0, 1);
    offerIs(x, 3, 3, 0, 0);
    x.set(1, 6);
    offerIs(x, 3, 0, 0, 1);
    offerIs(x, 0, 3, 0, 0);
    offerIs(x, 3, 3, 0, -9);
    x.set(1, 7);
    offerIs(x, 0, 1, 0, -9);
    offerIs(x, 1, 2, 0, 1);
    refusals(x, 0, 0, 0, 0, 0);
    x = with("g0;", "f1", "f2");
    offerIs(x, 0, 1, 0, -9);
    x = with("g0;", "f0", "f1");
    offerIs(x, 1, 0, 0, 1);
  }

  private static void partsIs(HalfOrNine x, int one, int other, int good, int want) {
    due("parts " + one + " " + other + " " + good, x.parts(one, other, good), want);
  }

  private static void parting() {
    says("PARTS THEM: whether GOOD 0 and a told GOOD take unlike ones; to take none is another answer than to take one");
    HalfOrNine x = with("g0;p0,10;", "w12", "f0");
    for (int good = 1; good <= 9; good++) {
      partsIs(x, 0, 1, good, good > 2 ? 1 : 0);
      partsIs(x, 1, 0, good, good >= 2 ? 1 : 0);
      partsIs(x, 1, 1, good, 0);
    }
    x.set(1, 13);
    for (int good = 1; good <= 9; good++) {
      partsIs(x, 0, 1, good, good >= 3 ? 1 : 0);
      partsIs(x, 1, 1, good, good >= 3 ? 1 : 0);
      partsIs(x, 0, 0, good, 0);
    }
    refusals(x, 0, 0, 0, 0, 0);
    HalfOrNine y = with("g0;p0,10;", "w10", "f0");
    for (int good = 1; good <= 9; good++) partsIs(y, 0, 1, good, 1);
    says("offer, parts: -1 (TERM, GOOD; of parts GOOD 0, too)");
    int[] none = {-1, 2, 8, LEAST, MOST};
    for (int n : none) {
      due("offer of no TERM", x.offer(n, 0, 0), -1);
      due("offer of no other TERM", x.offer(0, n, 0), -1);
      due("parts of no TERM", x.parts(n, 0, 1), -1);
      due("parts of no other TERM", x.parts(0, n, 1), -1);
    }
    int[] noGood = {-1, 10, LEAST, MOST};
    for (int n : noGood) {
      due("offer to no GOOD", x.offer(0, 1, n), -1);
      due("parts of no GOOD", x.parts(0, 1, n), -1);
    }
    due("parts of GOOD 0", x.parts(0, 1, 0), -1);
    due("offer to GOOD 0", x.offer(0, 1, 0), -9);
    refusals(x, 29, 0, 0, 0, 0);
  }

  private static void ownIs(String field, String term, int b, int want) {
    due("own " + b + " by " + term + " on " + field, with(field, term).own(0, b), want);
  }

  private static void owns() {
    says("OWN: pairs, together no more than how many STEPS there are");
    ownIs("", "f0", 0, 0);
    ownIs("", "f0", 99, 0);
    ownIs("g0;" + many(8, "p0,9;"), "f0", 0, 80);
    ownIs("g0;" + many(8, "p0,9;"), "f0", 8, 80);
    ownIs("g0;" + many(8, "p0,9;"), "f0", 10, 8);
    ownIs("g0;" + many(8, "p0,9;"), "f0", 99, 8);
    ownIs("g0;p0,20;" + many(7, "p0,1;"), "f0", 5, 17);
    ownIs("g10;p3,10;", "f0", 0, 10);
    ownIs("g90;p8,10;m99,0;", "f0", 0, 10);
    ownIs("g0;p1,10;w1,110;m0,1;", "f0", 0, 10);
    ownIs("g0;p0,10;", "f0", 9, 10);
    ownIs("g0;p0,10;", "f0", 10, 1);
    says("OWN: of several the least");
    ownIs("g0;" + many(8, "p0,9;"), "f0", 9, 8);
    ownIs("g0;p0,20;" + many(7, "p0,1;"), "f0", 1, 17);
    ownIs("g0;" + many(8, "p0,0;"), "f0", 0, 0);
    ownIs("g0;p1,0;p5,0;", "f0", 1, 0);
    says("OWN: own ones cost as the next STEPS");
    ownIs("g0;p1,0;p5,0;", "f0", 0, 0);
    ownIs("g0;p1,0;p5,0;", "f0", 3, 1);
    ownIs("g0;p1,0;p5,0;", "f0", 5, 1);
    ownIs("g0;p1,0;p5,0;", "f0", 6, 2);
    ownIs("g0;p1,9;p7,9;", "f0", 6, 20);
    ownIs("g0;p1,9;p7,9;", "f0", 8, 20);
    ownIs("g0;p1,9;p7,9;", "f0", 9, 2);
    ownIs("g0;p1,9;p1,1;p9,9;", "f0", 4, 11);
    says("OWN: MIND of SHARE and own bushels");
    ownIs("g0;p3,0;", "f10", 1, 0);
    ownIs("g0;p3,0;", "f10", 2, 1);
    ownIs("g0;p3,0;m0,0;", "f0", 99, 0);
    ownIs("g0;p3,0;m0,0;", "f99", 99, 1);
    says("SEED is taken in OWN, where it is his");
    ownIs("g0;p3,0;s10,0;", "w0", 2, 1);
    ownIs("g0;p3,0;s10,1;", "w0", 2, 0);
    says("OWN: b bushels a STEP (as this class reads it: in each WEATHER alike)");
    ownIs("g0;p1,0;w100,50;", "w0", 2, 1);
    ownIs("g0;p1,0;w100,300;", "w0", 1, 0);
    says("own: -1; -4; -6 99");
    HalfOrNine x = with("", "f0");
    int[] none = {-1, 1, 8, LEAST, MOST};
    for (int n : none) due("no TERM ahead of -4, -6", x.own(n, n < 0 ? -1 : 100), -1);
    due("-4", x.own(0, -1), -4);
    due("-4", x.own(0, LEAST), -4);
    due("-6", x.own(0, 100), -6);
    due("-6", x.own(0, MOST), -6);
    refusals(x, 5, 0, 0, 2, 2);
  }

  private static void bearsIs(String field, String term, int chance, long want) {
    HalfOrNine x = with(field, term);
    int weathers = x.count(2);
    due("bears " + chance + " of " + term + " on " + field, x.bears(0, chance), want);
    due("no WEATHER comes", x.count(2), weathers);
  }

  private static void bearing() {
    says("HAIL: a WEATHER more with told CHANCE (0 .. 50), TIMES 0, the others' CHANCES less in step");
    bearsIs("", "p1/2", 0, 0);
    bearsIs("", "p1/2", 1, 50);
    bearsIs("", "p1/2", 50, 2500);
    bearsIs("w100,100;", "p1/2", 33, 1650);
    bearsIs("w100,100;", "p1/2", 50, 2500);
    bearsIs("", "f10", 50, 0);
    bearsIs("", "w6", 20, 3200);
    says("HAIL: CHANCE times (100 less it), over 100, cut; what lacks is TIMES 100");
    bearsIs("w33,200;w33,200;w34,200;", "p1/2", 50, 5050);
    bearsIs("w33,200;w33,200;w34,200;", "p1/2", 1, 200);
    bearsIs("w33,200;w33,200;w34,200;", "p1/2", 0, 0);
    bearsIs("w1,300;", "p1/2", 1, 150);
    bearsIs("w1,300;", "p1/2", 50, 2600);
    says("BEARS may be below 0");
    bearsIs("w33,0;w33,0;w34,0;", "p1/2", 50, -50);
    says("HAIL beside 6 WEATHERS and what they lack: TIMES 0");
    bearsIs("w10,0;w10,10;w10,20;w10,30;w10,40;w10,50;", "p1/2", 50, 1450);
    bearsIs("g99;p0,99;", "p1/2", 50, 49500);
    says("BEARS: his BEST PAINS for each");
    bearsIs("g0;p1,10;", "p1/3", 50, 3500);
    bearsIs("p3,10;", "p1/2", 50, 7500);
    says("bears: -1; -4; -6 50");
    HalfOrNine x = with("", "f0");
    int[] none = {-1, 1, 8, LEAST, MOST};
    for (int n : none) due("no TERM ahead of -4, -6", x.bears(n, n < 0 ? -1 : 51), TOLD_LONG + 1);
    due("-4", x.bears(0, -1), TOLD_LONG + 4);
    due("-4", x.bears(0, LEAST), TOLD_LONG + 4);
    due("-6", x.bears(0, 51), TOLD_LONG + 6);
    due("-6", x.bears(0, MOST), TOLD_LONG + 6);
    refusals(x, 5, 0, 0, 2, 2);
  }

  /** The DRAWS by a seed, reckoned without an int that wraps. */
  private static int[] drawsBy(int z, int n) {
    int[] draws = new int[n];
    BigInteger v = BigInteger.valueOf(z);
    for (int i = 0; i < n; i++) {
      v = v.multiply(BigInteger.valueOf(1103515245L)).add(BigInteger.valueOf(12345));
      v = v.mod(BigInteger.ONE.shiftLeft(32));
      draws[i] = v.mod(BigInteger.ONE.shiftLeft(31)).divide(BigInteger.valueOf(65536)).intValue() % 100;
    }
    return draws;
  }

  private static void draws() {
    says("DRAW: z wraps; the first WEATHER below whose CHANCES together it is");
    int[] known = {38, 58, 13, 15, 51, 27, 10, 19, 12, 86};
    int[] draws = drawsBy(1, 10);
    for (int i = 0; i < 10; i++) due("DRAW " + i + " by seed 1", draws[i], known[i]);
    for (int z : SEEDS) {
      int first = drawsBy(z, 1)[0];
      for (int chance = 1; chance <= 100; chance++) {
        HalfOrNine x = with("g7;w" + chance + ",0;", "f0");
        due("owes of seed " + z + " with CHANCE " + chance, x.owes(0, 0, z, 0, 1), first < chance ? 0 : 7);
        due("ruin of seed " + z + " with CHANCE " + chance, x.ruin(0, 0, z, 1, 0, 1), first < chance ? 0 : -9);
        due("ruins of seed " + z + " with CHANCE " + chance, x.ruins(0, 0, z, 1, 0, 1, 1), first < chance ? 1 : 0);
        x.row(7);
        due("judge of seed " + z + " with CHANCE " + chance, x.judge(0, z), first < chance ? 0 : -9);
      }
      for (int n = 1; n <= 30; n++) {
        int want = 0;
        for (int d : drawsBy(z, n)) want += d < 20 ? 1 : d < 50 ? 3 : d < 60 ? 0 : d < 90 ? 2 : 10;
        HalfOrNine x = with("w20,10;w30,30;w10,0;w30,20;", "f0");
        due("owes of seed " + z + " behind " + n, x.owes(0, 0, z, 0, n), want);
      }
    }
  }

  private static void ruins() {
    says("RUIN: the first YEAR behind which it is below 0 less a told CREDIT; -9");
    HalfOrNine x = with("", "w0");
    int[][] table = {{1, 0, 30, 0}, {1, 1, 30, 1}, {1, 29, 30, 29}, {1, 30, 30, -9}, {1, 29, 29, -9}, {0, 0, 30, -9},
        {1, 0, 1, 0}, {1, 1, 1, -9}, {99, 98, 1, 0}, {99, 99, 1, -9}, {99, 999, 30, 10}, {37, 999, 27, -9},
        {37, 999, 28, 27}, {37, 998, 30, 26}};
    for (int[] r : table) {
      due("ruin by LIFE " + r[0] + " CREDIT " + r[1] + " for " + r[2], x.ruin(0, 0, 5, r[0], r[1], r[2]), r[3]);
      due("ruins by LIFE " + r[0] + " CREDIT " + r[1] + " for " + r[2],
          x.ruins(0, 0, 5, r[0], r[1], r[2], 50), r[3] < 0 ? 0 : 50);
    }
    x = with("w39,0;", "f0");
    int[] credits = {4, 5, 9, 10, 14, 15, 19, 20, 24, 25, 999};
    int[] ruins = {0, 3, 3, 6, 6, 7, 7, 8, 8, -9, -9};
    for (int i = 0; i < credits.length; i++) {
      due("ruin with CREDIT " + credits[i], x.ruin(0, 0, 1, 5, credits[i], 10), ruins[i]);
    }
    due("not yet", x.ruin(0, 0, 1, 5, 20, 8), -9);
    due("just", x.ruin(0, 0, 1, 5, 20, 9), 8);
    says("OWES: what he has behind n YEARS (RUIN or not)");
    int[] has = {-5, 0, -5, -10, -5, -10, -15, -20, -25, -20};
    for (int n = 1; n <= 10; n++) due("owes behind " + n, x.owes(0, 0, 1, 5, n), has[n - 1]);
    says("his SHARE (less SEED, where that is his), less a told LIFE");
    x = with("", "f0");
    due("LIFE 0", x.owes(0, 0, 3, 0, 30), 300);
    due("LIFE 99", x.owes(0, 0, 3, 99, 30), -2670);
    x.set(2, 4);
    due("his SEED", x.owes(0, 0, 3, 0, 30), 180);
    due("RUIN by SEED", x.ruin(0, 0, 3, 7, 0, 1), 0);
    x.set(3, 1);
    due("not his SEED", x.owes(0, 0, 3, 0, 30), 300);
    due("no RUIN by it", x.ruin(0, 0, 3, 7, 0, 1), -9);
    says("YEARS of a TERM 0 .. 9, then 9");
    x = with("g20;", "y1/20+1");
    int sum = 0;
    for (int n = 1; n <= 30; n++) {
      sum += Math.min(n, 10);
      due("owes behind " + n, x.owes(0, 0, 9, 0, n), sum);
    }
    due("RUIN as the SHARE grows", x.ruin(0, 0, 9, 4, 5, 30), 2);
    due("no RUIN as the SHARE grows", x.ruin(0, 0, 9, 4, 6, 30), -9);
    says("PAINS are told");
    x = with("p9,10;", "f0");
    due("owes of PAINS 0", x.owes(0, 0, 1, 0, 1), 10);
    due("owes of PAINS 1, COST plays no part", x.owes(0, 1, 1, 0, 1), 20);
    due("ruin of PAINS 0", x.ruin(0, 0, 1, 20, 0, 1), 0);
    due("no ruin of PAINS 1", x.ruin(0, 1, 1, 20, 0, 1), -9);
    due("ruin of PAINS 1", x.ruin(0, 1, 1, 21, 0, 1), 0);
    due("no ruins of PAINS 1", x.ruins(0, 1, 1, 20, 0, 1, 1), 0);
    due("ruins of PAINS 1", x.ruins(0, 1, 1, 21, 0, 1, 1), 1);
    x.row(20);
    due("judge of PAINS 1", x.judge(1, 1), -9);
    x.row(20);
    due("judge of PAINS 0", x.judge(0, 1), 0);
  }

  private static void manySeeds() {
    says("How many of n (1 .. 50) seeds z, z and 1, .. bring RUIN in m YEARS");
    HalfOrNine x = with("w39,0;", "f0");
    for (int z : SEEDS) {
      int ruined = 0;
      for (int i = 0; i < 50; i++) {
        int has = 0;
        boolean below = false;
        for (int d : drawsBy(z + i, 12)) {
          has += (d < 39 ? 0 : 10) - 5;
          below |= has < -15;
        }
        if (below) ruined++;
        if (i % 7 == 0 || i == 49) due("ruins of seed " + z + " and " + i, x.ruins(0, 0, z, 5, 15, 12, i + 1), ruined);
      }
    }
    due("one seed, one YEAR", x.ruins(0, 0, 1, 5, 4, 1, 1), 1);
    due("one seed, one YEAR, none", x.ruins(0, 0, 1, 5, 5, 1, 1), 0);
  }

  private static void refusalsOfDebts() {
    says("ruin, owes, ruins: -1 either; -4; -6 (99; 999; 30; 50)");
    HalfOrNine x = with("p1,1;", "w0");
    int[] none = {-1, 2, LEAST, MOST};
    for (int n : none) {
      due("ruin of no TERM", x.ruin(n, 0, 1, -1, 1000, 0), -1);
      due("ruin of no PAINS", x.ruin(0, n, 1, -1, 1000, 0), -1);
      due("owes of no TERM", x.owes(n, 0, 1, -1, 31), TOLD + 1);
      due("owes of no PAINS", x.owes(0, n, 1, -1, 31), TOLD + 1);
      due("ruins of no TERM", x.ruins(n, 0, 1, -1, 1000, 0, 51), -1);
      due("ruins of no PAINS", x.ruins(0, n, 1, -1, 1000, 0, 51), -1);
    }
    refusals(x, 24, 0, 0, 0, 0);
    int[][] below = {{-1, 0, 1, 1}, {0, -1, 1, 1}, {0, 0, 0, 1}, {0, 0, 1, 0}, {-1, 1000, 31, 51}, {100, -1, 31, 51},
        {100, 1000, 0, 51}, {100, 1000, 31, 0}, {LEAST, LEAST, LEAST, LEAST}};
    for (int[] r : below) due("ruins below", x.ruins(0, 0, 1, r[0], r[1], r[2], r[3]), -4);
    int[][] above = {{100, 0, 1, 1}, {0, 1000, 1, 1}, {0, 0, 31, 1}, {0, 0, 1, 51}, {MOST, MOST, MOST, MOST}};
    for (int[] r : above) due("ruins above", x.ruins(0, 0, 1, r[0], r[1], r[2], r[3]), -6);
    refusals(x, 24, 0, 0, 9, 5);
    for (int[] r : new int[][] {{-1, 1000, 31}, {100, -1, 31}, {100, 1000, 0}}) {
      due("ruin below", x.ruin(0, 0, 1, r[0], r[1], r[2]), -4);
    }
    for (int[] r : new int[][] {{100, 0, 1}, {0, 1000, 1}, {0, 0, 31}}) {
      due("ruin above", x.ruin(0, 0, 1, r[0], r[1], r[2]), -6);
    }
    due("owes below", x.owes(0, 0, 1, -1, 31), TOLD + 4);
    due("owes below", x.owes(0, 0, 1, 100, 0), TOLD + 4);
    due("owes above", x.owes(0, 0, 1, 100, 30), TOLD + 6);
    due("owes above", x.owes(0, 0, 1, 99, 31), TOLD + 6);
    refusals(x, 24, 0, 0, 14, 10);
    due("the greatest", x.ruins(0, 1, MOST, 99, 999, 30, 50), 50);
    due("the least", x.ruins(0, 0, LEAST, 0, 0, 1, 1), 0);
    refusals(x, 24, 0, 0, 14, 10);
  }

  public static void main(String[] args) {
    years();
    refusalsOfYears();
    leaving();
    sorts();
    parting();
    owns();
    bearing();
    draws();
    ruins();
    manySeeds();
    refusalsOfDebts();
    end();
  }
}
