/** The edges of the ROW, THE IMAGE and of what is counted (promises 29 to 33). */
public final class ImageEdgeTests extends Checks {
  private static final String FULL_FIELD = "g1;o2;s3,1;m4,5;e6,7;" + many(7, "p1,2;");
  private static final String MORE_FIELD = "p9,9;w50,0;w9,1;w10,2;w10,3;w10,4;w10,300;";

  /** 8 TERMS, 8 STEPS, 6 WEATHERS told and one that lacks. */
  private static void fill(HalfOrNine x) {
    field(x, FULL_FIELD);
    field(x, MORE_FIELD);
    for (int t = x.count(0); t < 8; t++) term(x, "x1/2+" + t);
  }

  private static void rows() {
    says("A ROW of HARVESTS (16 at most)");
    HalfOrNine x = new HalfOrNine();
    due("the least", x.row(0), 1);
    due("the greatest", x.row(999), 2);
    due("below", x.row(-1), -4);
    due("below", x.row(LEAST), -4);
    due("above", x.row(1000), -6);
    due("above", x.row(MOST), -6);
    due("they do not come", x.count(5), 2);
    for (int i = 3; i <= 16; i++) due("row", x.row(10), i);
    due("a 17th", x.row(10), -6);
    due("a 17th above", x.row(1000), -6);
    due("a 17th below: -4 ahead of no room", x.row(-1), -4);
    due("HARVESTS", x.count(5), 16);
    refusals(x, 0, 0, 0, 3, 4);
    due("JUDGED: 0 is not 10", x.judge(0, 1), 0);
    due("there is room again", x.row(10), 1);
  }

  /** By seed 1 the DRAWS are 38, 58, 13, 15, 51, 27, 10, 19, 12, 86: below 39 HARVEST 0, else 10. */
  private static final int[] BY_SEED_1 = {0, 10, 0, 0, 10, 0, 0, 0, 0, 10};

  private static void judging() {
    says("JUDGED by a seed: the first YEAR whose HARVEST (PAINS told) is not so; -9");
    HalfOrNine x = with("w39,0;p1,5;");
    due("an empty ROW", x.judge(0, 1), -9);
    due("an empty ROW", x.judge(1, LEAST), -9);
    for (int wrong = 0; wrong <= 10; wrong++) {
      for (int i = 0; i < 10; i++) x.row(BY_SEED_1[i] + (i == wrong || i == wrong + 2 ? 1 : 0));
      due("the first that is not so", x.judge(0, 1), wrong < 10 ? wrong : -9);
      due("the ROW has none then", x.count(5), 0);
    }
    for (int h : BY_SEED_1) x.row(h == 0 ? 0 : 15);
    due("with PAINS 1", x.judge(1, 1), -9);
    for (int h : BY_SEED_1) x.row(h == 0 ? 0 : 15);
    due("with PAINS 0", x.judge(0, 1), 1);
    says("a full ROW");
    for (int last = 10; last <= 11; last++) {
      x = new HalfOrNine();
      for (int i = 0; i < 15; i++) x.row(10);
      due("the 16th", x.row(last), 16);
      due("judge", x.judge(0, 7), last == 10 ? -9 : 15);
      due("the ROW has none then", x.count(5), 0);
    }
    says("judge: -1 (it stays)");
    x = with("w39,0;p1,5;");
    for (int h : BY_SEED_1) x.row(h);
    int[] none = {-1, 2, 9, LEAST, MOST};
    for (int n : none) due("no PAINS", x.judge(n, 1), -1);
    due("the ROW stays", x.count(5), 10);
    due("as it was", x.judge(0, 1), -9);
    refusals(x, 5, 0, 0, 0, 0);
    says("a seed by which z wraps around: JUDGED");
    int[] seeds = {0, -1, LEAST, MOST};
    for (int z : seeds) {
      x = with("w39,0;", "f0");
      int before = 0;
      for (int n = 1; n <= 16; n++) {
        int has = x.owes(0, 0, z, 0, n);
        x.row(has - before);
        before = has;
      }
      due("judge by seed " + z, x.judge(0, z), -9);
    }
  }

  private static void noImage() {
    says("restore: -3 there is none");
    HalfOrNine x = new HalfOrNine();
    due("restore", x.restore(), -3);
    fill(x);
    String before = seen(x);
    due("restore", x.restore(), -3);
    same("restore", seen(x), before);
    refusals(x, 0, 0, 2, 0, 0);
    due("image", x.image(), 8);
    due("restore", x.restore(), 8);
    same("restore", seen(x), before);
    refusals(x, 0, 0, 2, 0, 0);
  }

  private static void emptyImage() {
    says("THE IMAGE of a new object");
    HalfOrNine x = new HalfOrNine();
    String before = seen(x);
    due("image", x.image(), 0);
    fill(x);
    String full = seen(x);
    due("restore", x.restore(), 0);
    same("restore", seen(x), before);
    due("no TERM", x.termOf(0, 0), -1);
    due("no PAINS", x.harvest(1, 0), -1);
    due("no WEATHER", x.weather(1, 0), -1);
    fill(x);
    same("there is room again", seen(x), full);
    says("THE IMAGE stays when it is RESTORED");
    due("restore again", x.restore(), 0);
    same("restore again", seen(x), before);
    term(x, "f1");
    due("and again", x.restore(), 0);
    same("and again", seen(x), before);
  }

  private static void fullImage() {
    says("THE IMAGE: all that there is");
    HalfOrNine x = with("", "f9");
    x.image();
    fill(x);
    String full = seen(x);
    due("another takes its place", x.image(), 8);
    same("image changes nothing", seen(x), full);
    for (int what = 0; what < 8; what++) x.set(what, 0);
    due("restore", x.restore(), 8);
    same("restore", seen(x), full);
    due("no room for a TERM", x.term(), -6);
    due("no room for a STEP", field(x, "p1,1;"), -2000);
    due("no room for a WEATHER", field(x, "w1,1;"), -2000);
    settingsAre(x, 1, 2, 3, 1, 4, 5, 6, 7);
    says("what comes behind image() is none of it");
    x = with("p1,2;w10,20;", "f1");
    String before = seen(x);
    x.image();
    field(x, "p3,4;w30,40;g50;");
    term(x, "w2");
    same("restore", x.restore() == 1 ? seen(x) : "", before);
    due("the next TERM", term(x, "p1/3"), 1);
    due("is as told", x.termOf(1, 0), 0);
    due("the first as it was", x.termOf(0, 0), 1);
    field(x, "p5,6;");
    due("COSTS", x.count(3), 6);
    due("restore", x.restore(), 1);
    same("restore", seen(x), before);
  }

  private static void besideTheImage() {
    says("THE IMAGE holds all but it, the TEXT, the ROW, REFUSALS");
    HalfOrNine x = new HalfOrNine();
    feed(x, "g");
    x.row(10);
    x.pains(0);
    x.image();
    feed(x, "5;");
    x.row(11);
    x.pains(0);
    x.set(9, 0);
    x.set(0, -1);
    x.set(0, 100);
    due("restore", x.restore(), 0);
    due("the TEXT", x.count(6), 3);
    due("the ROW", x.count(5), 2);
    refusals(x, 2, 1, 0, 1, 1);
    due("the TEXT is as it was fed", x.field(), 1);
    due("GROWS", x.set(0, 10), 5);
    due("the ROW is as it was told", x.judge(0, 1), 1);
    x.restore();
    due("the TEXT stays empty", x.count(6), 0);
    due("the ROW stays empty", x.count(5), 0);
    says("THE IMAGE stays behind FAULTS and REFUSALS");
    x = with("", "f1");
    String before = seen(x);
    x.image();
    field(x, "g1;g");
    field(x, "g1;g100;");
    term(x, "f100");
    x.set(0, 100);
    x.judge(1, 0);
    term(x, "f2");
    due("restore", x.restore(), 1);
    same("restore", seen(x), before);
  }

  private static void counts() {
    says("count: 0 TERMS .. 6 bytes of the TEXT, at the least and the greatest");
    HalfOrNine x = new HalfOrNine();
    int[] least = {0, 0, 1, 0, 0, 0, 0};
    for (int what = 0; what <= 6; what++) due("count " + what, x.count(what), least[what]);
    x = with("p99,99;", "f0");
    field(x, many(7, "p99,99;"));
    field(x, "w1,0;w1,0;w1,0;w1,0;w1,0;w1,0;");
    for (int t = 1; t < 8; t++) term(x, "f0");
    for (int i = 0; i < 16; i++) x.row(999);
    feed(x, many(64, " "));
    int[] most = {8, 8, 7, 792, 792, 16, 64};
    for (int what = 0; what <= 6; what++) due("count " + what, x.count(what), most[what]);
    says("count: WEATHERS (with the one that CHANCES lack)");
    for (int n = 0; n <= 6; n++) {
      x = with(many(n, "w10,7;") + "g1;");
      due("lacking", x.count(2), n + 1);
      due("what lacks is told", field(x, "w" + (100 - 10 * n) + ",7;"), n < 6 ? 1 : -2000);
      due("lacking nothing", x.count(2), n < 6 ? n + 1 : 7);
    }
    says("count: -9 for another what");
    int[] others = {-1, 7, 8, 9, 10, 17, 18, 100, LEAST, MOST};
    for (int what : others) due("count " + what, x.count(what), -9);
    refusals(x, 0, 0, 0, 0, 0);
    says("count: 11 .. 16 REFUSALS -1 .. -6");
    x = new HalfOrNine();
    for (int i = 1; i <= 80; i++) {
      x.pains(0);
      if (i % 2 == 0) x.set(8, 0);
      if (i % 5 == 0) x.restore();
      if (i % 3 == 0) x.feed(0, 0);
      if (i % 4 == 0) x.feed(9, 0);
    }
    refusals(x, 80, 40, 16, 26, 20);
    for (int i = 0; i < 300; i++) x.takes(-1);
    refusals(x, 380, 40, 16, 26, 20);
    says("-9 and FAULTS are none of the REFUSALS");
    x = with("o11;", "x1/2+9");
    due("proof", x.proof(), -9);
    due("gap", x.gap(), -9);
    due("half", x.half(), -9);
    due("looks", x.looks(0, 0, 0), -9);
    due("offer", x.offer(0, 0, 0), -9);
    due("ruin", x.ruin(0, 0, 1, 0, 999, 1), -9);
    due("judge", x.judge(0, 1), -9);
    due("count", x.count(7), -9);
    due("field", x.field(), -1000);
    due("term", x.term(), -20);
    refusals(x, 0, 0, 0, 0, 0);
  }

  public static void main(String[] args) {
    rows();
    judging();
    noImage();
    emptyImage();
    fullImage();
    besideTheImage();
    counts();
    end();
  }
}
